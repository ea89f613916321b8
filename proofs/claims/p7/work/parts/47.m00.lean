set_option maxHeartbeats 4000000 in
set_option maxRecDepth 100000 in
theorem c_X11_packedFloat_f (l : Launch) (D : va_G) (cB cI cJ cD : ClassId) (p0 : Int64) (p1 : Int32) (sz : Nat) (b_p0 : kl 0 288230376151711744 p0) (b_p1 : kr (-400) 200 p1) : Met l yX11_packedFloat (kk_W yX11_packedFloat cX11_packedFloat 11 (some .int)) ({ frames := 0, cells := 0, slots := 0, locals := 0 }) (va_Pc [.long p0, .int p1] (kk_pre D cB cI cJ cD [] sz)) (vp_Si (fun r => kr 0 2147483647 r)) 0 0 (fun _ => False) := by
  refine kk_pstart (y := yX11_packedFloat) (maxL := 11) (av := [.long p0, .int p1]) (by decide) (Nat.le_of_ble_eq_true rfl) ?_
  intro p e s m below meth c ls hx hb hr hml hown hts hE hlocks hsz hP hD hl
  have hown : s.vm.findClass RX11 = some m.cls := hown
  have hl : lv_has ls 11 [(0, .long p0), (2, .int p1)] := hl
  generalize hQQ : MQ below _ _ s _ _ _ = QQ
  have J_151 : ∀ (x151_l_4 : Int64) (x151_l_6 : Int32) (ls : Array Slot), kl 0 16777215 x151_l_4 → kr (-24) 63 x151_l_6 → -149 ≤ p1.toInt + x151_l_6.toInt → lv_has ls 11 [(4, .long x151_l_4), (6, .int x151_l_6), (2, .int p1)] → W p l e ({ frames := 0, cells := 0, slots := 0, locals := 0 }) s m ([.long p0, .int p1] : List Value).toArray below meth c s.heap [] 0 0 QQ (F0 m 151 ls []) := by
    intro x151_l_4 x151_l_6 ls bx151_l_4 bx151_l_6 r151_0 hl
    refine lv_lload hx hb dX11_packedFloat_151 (lv_at hl 0 rfl) ?_
    refine lv_ldc2 (v := 8388608) hx hb hown (hts _ w_1513) dX11_packedFloat_153 ?_
    refine W.lcmp hx hb dX11_packedFloat_156 ?_
    refine lv_topi (fun v_1 e_1 => ?_)
    refine lv_if_ge (tgt := 164) hx hb dX11_packedFloat_157 (by decide) (fun c_2 => ?_) (fun c_2 => ?_)
    · have l_2 : 8388608 ≤ x151_l_4.toInt := klc_ge e_1 (ki_le c_2)
      have b_3 : kl 8388608 16777215 x151_l_4 := (by have q1 := bx151_l_4.1; have q2 := bx151_l_4.2; exact ⟨by omega, by omega⟩)
      have i_2 : 0 ≤ v_1.toInt := (ki_le c_2)
      have b_4 : kr 0 2147483647 v_1 := kr_le_r (kr_c 0 0 rfl) (kr_all v_1) i_2 rfl
      refine lv_iload_n hx hb dX11_packedFloat_164 rfl (lv_at hl 2 rfl) ?_
      refine lv_iload hx hb dX11_packedFloat_165 (lv_at hl 1 rfl) ?_
      refine lv_iadd hx hb dX11_packedFloat_167 ?_
      refine lv_topi (fun v_5 e_5 => ?_)
      have t_5 : v_5.toInt = p1.toInt + x151_l_6.toInt := kt_add e_5 b_p1 bx151_l_6 rfl
      have b_5 : kr (-424) 263 v_5 := kr_add (x := p1) (y := x151_l_6) t_5 b_p1 bx151_l_6 rfl
      refine lv_bipush (v := 104) hx hb dX11_packedFloat_168 (by decide) ?_
      refine lv_icmp_le (tgt := 178) hx hb dX11_packedFloat_170 (by decide) (fun c_6 => ?_) (fun c_6 => ?_)
      · have i_6 : v_5.toInt ≤ 104 := (ki_le c_6)
        have b_7 : kr (-424) 104 v_5 := kr_le_l b_5 (kr_c 104 104 rfl) i_6 rfl
        refine lv_iload_n hx hb dX11_packedFloat_178 rfl (lv_at hl 2 rfl) ?_
        refine lv_iload hx hb dX11_packedFloat_179 (lv_at hl 1 rfl) ?_
        refine lv_iadd hx hb dX11_packedFloat_181 ?_
        refine lv_topi (fun v_8 e_8 => ?_)
        have t_8 : v_8.toInt = p1.toInt + x151_l_6.toInt := kt_add e_8 b_p1 bx151_l_6 rfl
        have b_8 : kr (-424) 263 v_8 := kr_add (x := p1) (y := x151_l_6) t_8 b_p1 bx151_l_6 rfl
        have b_9 : kr (-149) 104 v_8 := (by have q0 := b_3.1; have q0' := b_3.2; have q1 := b_8.1; have q1' := b_8.2; have q2 := b_p1.1; have q2' := b_p1.2; have q3 := bx151_l_6.1; have q3' := bx151_l_6.2; exact ⟨by omega, by omega⟩)
        refine lv_sipush (v := 150) hx hb dX11_packedFloat_182 (by decide) ?_
        refine lv_iadd hx hb dX11_packedFloat_185 ?_
        refine lv_topi (fun v_10 e_10 => ?_)
        have t_10 : v_10.toInt = v_8.toInt + 150 := kt_add e_10 b_9 (kr_c 150 150 rfl) rfl
        have b_10 : kr 1 254 v_10 := kr_add (x := v_8) (y := 150) t_10 b_9 (kr_c 150 150 rfl) rfl
        refine lv_bipush (v := 23) hx hb dX11_packedFloat_186 (by decide) ?_
        refine lv_ishl hx hb dX11_packedFloat_188 ?_
        refine lv_topi (fun v_11 e_11 => ?_)
        have b_11 : kr 8388608 2130706432 v_11 := kr_shl 23 e_11 b_10 (by decide) rfl
        refine lv_lload hx hb dX11_packedFloat_189 (lv_at hl 0 rfl) ?_
        refine lv_ldc2 (v := 8388608) hx hb hown (hts _ w_1513) dX11_packedFloat_191 ?_
        refine lv_lsub hx hb dX11_packedFloat_194 ?_
        refine lv_topl (fun v_12 e_12 => ?_)
        have t_12 : v_12.toInt = x151_l_4.toInt - 8388608 := kt_lsub e_12 b_3 (kl_c 8388608 8388608 rfl) rfl
        have b_12 : kl 0 8388607 v_12 := kl_sub (x := x151_l_4) (y := 8388608) t_12 b_3 (kl_c 8388608 8388608 rfl) rfl
        refine lv_l2i hx hb dX11_packedFloat_195 rfl ?_
        refine lv_topi (fun v_13 e_13 => ?_)
        have t_13 : v_13.toInt = v_12.toInt := kt_l2i e_13 b_12 rfl
        have b_13 : kr 0 8388607 v_13 := kr_l2i e_13 b_12 rfl
        refine lv_ior hx hb dX11_packedFloat_196 ?_
        refine lv_topi (fun v_14 e_14 => ?_)
        have b_14 : kr 8388608 2147483647 v_14 := kr_or e_14 31 b_11 b_13 rfl
        subst hQQ
        exact kk_pret_i hx hb hr hlocks (kr_w b_14 rfl) dX11_packedFloat_197
      · have i_6 : 104 < v_5.toInt := (ki_nle c_6)
        have b_15 : kr 105 263 v_5 := kr_lt_r (kr_c 104 104 rfl) b_5 i_6 rfl
        refine lv_ldc (v := 2139095040) hx hb hown (hts _ w_1514) dX11_packedFloat_173 ?_
        refine lv_goto (tgt := 197) hx hb dX11_packedFloat_175 (by decide) ?_
        subst hQQ
        exact kk_pret_i hx hb hr hlocks (kr_w (kr_c 2139095040 2139095040 rfl) rfl) dX11_packedFloat_197
    · have l_2 : x151_l_4.toInt < 8388608 := klc_lt e_1 (ki_nle c_2)
      have b_16 : kl 0 8388607 x151_l_4 := (by have q1 := bx151_l_4.1; have q2 := bx151_l_4.2; exact ⟨by omega, by omega⟩)
      have i_2 : v_1.toInt < 0 := (ki_nle c_2)
      have b_17 : kr (-2147483648) (-1) v_1 := kr_lt_l (kr_all v_1) (kr_c 0 0 rfl) i_2 rfl
      refine lv_lload hx hb dX11_packedFloat_160 (lv_at hl 0 rfl) ?_
      refine lv_l2i hx hb dX11_packedFloat_162 rfl ?_
      refine lv_topi (fun v_18 e_18 => ?_)
      have t_18 : v_18.toInt = x151_l_4.toInt := kt_l2i e_18 b_16 rfl
      have b_18 : kr 0 8388607 v_18 := kr_l2i e_18 b_16 rfl
      subst hQQ
      exact kk_pret_i hx hb hr hlocks (kr_w b_18 rfl) dX11_packedFloat_163
  have J_134 : ∀ (x134_l_4 : Int64) (x134_l_6 : Int32) (ls : Array Slot), kl 0 16777216 x134_l_4 → kr 1 62 x134_l_6 → -149 ≤ p1.toInt + x134_l_6.toInt → lv_has ls 11 [(4, .long x134_l_4), (6, .int x134_l_6), (2, .int p1)] → W p l e ({ frames := 0, cells := 0, slots := 0, locals := 0 }) s m ([.long p0, .int p1] : List Value).toArray below meth c s.heap [] 0 0 QQ (F0 m 134 ls []) := by
    intro x134_l_4 x134_l_6 ls bx134_l_4 bx134_l_6 r134_0 hl
    refine lv_lload hx hb dX11_packedFloat_134 (lv_at hl 0 rfl) ?_
    refine lv_ldc2 (v := 16777216) hx hb hown (hts _ w_1512) dX11_packedFloat_136 ?_
    refine W.lcmp hx hb dX11_packedFloat_139 ?_
    refine lv_topi (fun v_19 e_19 => ?_)
    refine lv_if_ne (tgt := 151) hx hb dX11_packedFloat_140 (by decide) (fun c_20 => ?_) (fun c_20 => ?_)
    · have l_20 : ¬ x134_l_4.toInt = 16777216 := klc_ne e_19 c_20
      have b_21 : kl 0 16777215 x134_l_4 := (by have q1 := bx134_l_4.1; have q2 := bx134_l_4.2; exact ⟨by omega, by omega⟩)
      exact J_151 x134_l_4 x134_l_6 _ b_21 (kr_w bx134_l_6 rfl) (by show -149 ≤ p1.toInt + x134_l_6.toInt; have q0 := b_21.1; have q0' := b_21.2; have q1 := b_p1.1; have q1' := b_p1.2; have q2 := bx134_l_6.1; have q2' := bx134_l_6.2; omega) (lv_sub hl [0, 1, 2] rfl)
    · have l_20 : x134_l_4.toInt = 16777216 := klc_eq e_19 c_20
      have b_22 : kl 16777216 16777216 x134_l_4 := (by have q1 := bx134_l_4.1; have q2 := bx134_l_4.2; exact ⟨by omega, by omega⟩)
      have b_23 : kr 0 0 v_19 := kr_eq_l (kr_all v_19) (kr_c 0 0 rfl) c_20 rfl
      refine lv_ldc2 (v := 8388608) hx hb hown (hts _ w_1513) dX11_packedFloat_143 ?_
      refine lv_lstore (lv' := [(4, .long 8388608), (6, .int x134_l_6), (2, .int p1)]) hx hb dX11_packedFloat_146 hl (by decide) rfl (fun ls hl => ?_)
      obtain ⟨v_24, e_24⟩ : ∃ y : Int32, y = x134_l_6 + 1 := ⟨_, rfl⟩
      have t_24 : v_24.toInt = x134_l_6.toInt + 1 := kt_add e_24 bx134_l_6 (kr_c 1 1 rfl) rfl
      have b_24 : kr 2 63 v_24 := kr_add (x := x134_l_6) (y := 1) t_24 bx134_l_6 (kr_c 1 1 rfl) rfl
      refine lv_iinc (v := v_24) (lv' := [(6, .int v_24), (4, .long 8388608), (2, .int p1)]) hx hb dX11_packedFloat_148 hl (k := 1) rfl (by rw [e_24]; rfl) (by decide) rfl (fun ls hl => ?_)
      exact J_151 8388608 v_24 _ (kl_w (kl_c 8388608 8388608 rfl) rfl) (kr_w b_24 rfl) (by show -149 ≤ p1.toInt + v_24.toInt; have q0 := b_24.1; have q0' := b_24.2; have q1 := b_p1.1; have q1' := b_p1.2; have q2 := bx134_l_6.1; have q2' := bx134_l_6.2; omega) (lv_sub hl [1, 0, 2] rfl)
  have J_128 : ∀ (x128_l_4 : Int64) (x128_l_6 : Int32) (ls : Array Slot), kl 0 16777215 x128_l_4 → kr 1 62 x128_l_6 → -149 ≤ p1.toInt + x128_l_6.toInt → lv_has ls 11 [(4, .long x128_l_4), (6, .int x128_l_6), (2, .int p1)] → W p l e ({ frames := 0, cells := 0, slots := 0, locals := 0 }) s m ([.long p0, .int p1] : List Value).toArray below meth c s.heap [] 0 0 QQ (F0 m 128 ls []) := by
    intro x128_l_4 x128_l_6 ls bx128_l_4 bx128_l_6 r128_0 hl
    refine lv_lload hx hb dX11_packedFloat_128 (lv_at hl 0 rfl) ?_
    refine lv_lconst (v := 1) hx hb dX11_packedFloat_130 (by decide) ?_
    refine lv_ladd hx hb dX11_packedFloat_131 ?_
    refine lv_topl (fun v_25 e_25 => ?_)
    have t_25 : v_25.toInt = x128_l_4.toInt + 1 := kt_ladd e_25 bx128_l_4 (kl_c 1 1 rfl) rfl
    have b_25 : kl 1 16777216 v_25 := kl_add (x := x128_l_4) (y := 1) t_25 bx128_l_4 (kl_c 1 1 rfl) rfl
    refine lv_lstore (lv' := [(4, .long v_25), (6, .int x128_l_6), (2, .int p1)]) hx hb dX11_packedFloat_132 hl (by decide) rfl (fun ls hl => ?_)
    exact J_134 v_25 x128_l_6 _ (kl_w b_25 rfl) bx128_l_6 (by show -149 ≤ p1.toInt + x128_l_6.toInt; have q0 := b_25.1; have q0' := b_25.2; have q1 := b_p1.1; have q1' := b_p1.2; have q2 := bx128_l_6.1; have q2' := bx128_l_6.2; omega) (lv_sub hl [0, 1, 2] rfl)
  have J_56 : ∀ (x56_l_6 : Int32) (ls : Array Slot), kr (-349) 251 x56_l_6 → kl 1 288230376151711744 p0 → p0.toInt < 2 ^ (x56_l_6.toInt + 24).toNat → -24 ≤ x56_l_6.toInt → -149 ≤ p1.toInt + x56_l_6.toInt → lv_has ls 11 [(6, .int x56_l_6), (0, .long p0), (2, .int p1)] → W p l e ({ frames := 0, cells := 0, slots := 0, locals := 0 }) s m ([.long p0, .int p1] : List Value).toArray below meth c s.heap [] 0 0 QQ (F0 m 56 ls []) := by
    intro x56_l_6 ls bx56_l_6 c56_p0 r56_0 r56_1 r56_2 hl
    refine lv_iload hx hb dX11_packedFloat_56 (lv_at hl 0 rfl) ?_
    refine lv_bipush (v := 62) hx hb dX11_packedFloat_58 (by decide) ?_
    refine lv_icmp_le (tgt := 65) hx hb dX11_packedFloat_60 (by decide) (fun c_26 => ?_) (fun c_26 => ?_)
    · have i_26 : x56_l_6.toInt ≤ 62 := (ki_le c_26)
      have b_27 : kr (-349) 62 x56_l_6 := kr_le_l bx56_l_6 (kr_c 62 62 rfl) i_26 rfl
      refine lv_iload hx hb dX11_packedFloat_65 (lv_at hl 0 rfl) ?_
      refine lv_if_gt (tgt := 80) hx hb dX11_packedFloat_67 (by decide) (fun c_28 => ?_) (fun c_28 => ?_)
      · have i_28 : 0 < x56_l_6.toInt := (ki_lt c_28)
        have b_29 : kr 1 62 x56_l_6 := kr_lt_r (kr_c 0 0 rfl) b_27 i_28 rfl
        refine lv_lload_n hx hb dX11_packedFloat_80 rfl (lv_at hl 1 rfl) ?_
        refine lv_iload hx hb dX11_packedFloat_81 (lv_at hl 0 rfl) ?_
        refine lv_lshr hx hb dX11_packedFloat_83 rfl ?_
        refine lv_topl (fun v_30 e_30 => ?_)
        have t_30 : v_30.toInt = p0.toInt / 2 ^ (Int32.toNatClampNeg x56_l_6) := kt_lshr e_30 c56_p0 b_29 rfl
        have b_30 : kl 0 144115188075855872 v_30 := kl_shr t_30 c56_p0 b_29 rfl
        have b_31 : kl 0 16777215 v_30 := kpf_shr t_30 r56_0 b_29 b_p0.1
        refine lv_lstore (lv' := [(4, .long v_30), (6, .int x56_l_6), (0, .long p0), (2, .int p1)]) hx hb dX11_packedFloat_84 hl (by decide) rfl (fun ls hl => ?_)
        refine lv_lload_n hx hb dX11_packedFloat_86 rfl (lv_at hl 2 rfl) ?_
        refine lv_lload hx hb dX11_packedFloat_87 (lv_at hl 0 rfl) ?_
        refine lv_iload hx hb dX11_packedFloat_89 (lv_at hl 1 rfl) ?_
        refine lv_lshl hx hb dX11_packedFloat_91 rfl ?_
        refine lv_topl (fun v_32 e_32 => ?_)
        refine lv_lsub hx hb dX11_packedFloat_92 ?_
        refine lv_topl (fun v_33 e_33 => ?_)
        refine lv_lstore (lv' := [(7, .long v_33), (4, .long v_30), (6, .int x56_l_6), (0, .long p0), (2, .int p1)]) hx hb dX11_packedFloat_93 hl (by decide) rfl (fun ls hl => ?_)
        refine lv_lconst (v := 1) hx hb dX11_packedFloat_95 (by decide) ?_
        refine lv_iload hx hb dX11_packedFloat_96 (lv_at hl 2 rfl) ?_
        refine lv_iconst (v := 1) hx hb dX11_packedFloat_98 (by decide) ?_
        refine lv_isub hx hb dX11_packedFloat_99 ?_
        refine lv_topi (fun v_34 e_34 => ?_)
        have t_34 : v_34.toInt = x56_l_6.toInt - 1 := kt_sub e_34 b_29 (kr_c 1 1 rfl) rfl
        have b_34 : kr 0 61 v_34 := kr_sub (x := x56_l_6) (y := 1) t_34 b_29 (kr_c 1 1 rfl) rfl
        refine lv_lshl hx hb dX11_packedFloat_100 rfl ?_
        refine lv_topl (fun v_35 e_35 => ?_)
        refine lv_lstore (lv' := [(9, .long v_35), (7, .long v_33), (4, .long v_30), (6, .int x56_l_6), (0, .long p0), (2, .int p1)]) hx hb dX11_packedFloat_101 hl (by decide) rfl (fun ls hl => ?_)
        refine lv_lload hx hb dX11_packedFloat_103 (lv_at hl 1 rfl) ?_
        refine lv_lload hx hb dX11_packedFloat_105 (lv_at hl 0 rfl) ?_
        refine W.lcmp hx hb dX11_packedFloat_107 ?_
        refine lv_topi (fun v_36 e_36 => ?_)
        refine lv_if_gt (tgt := 128) hx hb dX11_packedFloat_108 (by decide) (fun c_37 => ?_) (fun c_37 => ?_)
        · have l_37 : v_35.toInt < v_33.toInt := klc_gt e_36 (ki_lt c_37)
          have i_37 : 0 < v_36.toInt := (ki_lt c_37)
          have b_38 : kr 1 2147483647 v_36 := kr_lt_r (kr_c 0 0 rfl) (kr_all v_36) i_37 rfl
          exact J_128 v_30 x56_l_6 _ b_31 b_29 (by show -149 ≤ p1.toInt + x56_l_6.toInt; have q0 := b_29.1; have q0' := b_29.2; have q1 := b_31.1; have q1' := b_31.2; have q2 := b_p1.1; have q2' := b_p1.2; have q3 := c56_p0.1; have q3' := c56_p0.2; omega) (lv_sub hl [2, 3, 5] rfl)
        · have l_37 : v_33.toInt ≤ v_35.toInt := klc_le e_36 (ki_nlt c_37)
          have i_37 : v_36.toInt ≤ 0 := (ki_nlt c_37)
          have b_39 : kr (-2147483648) 0 v_36 := kr_le_l (kr_all v_36) (kr_c 0 0 rfl) i_37 rfl
          refine lv_lload hx hb dX11_packedFloat_111 (lv_at hl 1 rfl) ?_
          refine lv_lload hx hb dX11_packedFloat_113 (lv_at hl 0 rfl) ?_
          refine W.lcmp hx hb dX11_packedFloat_115 ?_
          refine lv_topi (fun v_40 e_40 => ?_)
          refine lv_if_ne (tgt := 134) hx hb dX11_packedFloat_116 (by decide) (fun c_41 => ?_) (fun c_41 => ?_)
          · have l_41 : ¬ v_33.toInt = v_35.toInt := klc_ne e_40 c_41
            exact J_134 v_30 x56_l_6 _ (kl_w b_31 rfl) b_29 (by show -149 ≤ p1.toInt + x56_l_6.toInt; have q0 := b_29.1; have q0' := b_29.2; have q1 := b_31.1; have q1' := b_31.2; have q2 := b_p1.1; have q2' := b_p1.2; have q3 := c56_p0.1; have q3' := c56_p0.2; omega) (lv_sub hl [2, 3, 5] rfl)
          · have l_41 : v_33.toInt = v_35.toInt := klc_eq e_40 c_41
            have b_42 : kr 0 0 v_40 := kr_eq_l (kr_all v_40) (kr_c 0 0 rfl) c_41 rfl
            refine lv_lload hx hb dX11_packedFloat_119 (lv_at hl 2 rfl) ?_
            refine lv_lconst (v := 1) hx hb dX11_packedFloat_121 (by decide) ?_
            refine lv_land hx hb dX11_packedFloat_122 ?_
            refine lv_topl (fun v_43 e_43 => ?_)
            have b_43 : kl 0 1 v_43 := kl_and e_43 1 (by decide) rfl
            refine lv_lconst (v := 1) hx hb dX11_packedFloat_123 (by decide) ?_
            refine W.lcmp hx hb dX11_packedFloat_124 ?_
            refine lv_topi (fun v_44 e_44 => ?_)
            refine lv_if_ne (tgt := 134) hx hb dX11_packedFloat_125 (by decide) (fun c_45 => ?_) (fun c_45 => ?_)
            · have l_45 : ¬ v_43.toInt = 1 := klc_ne e_44 c_45
              have b_46 : kl 0 0 v_43 := (by have q1 := b_43.1; have q2 := b_43.2; exact ⟨by omega, by omega⟩)
              exact J_134 v_30 x56_l_6 _ (kl_w b_31 rfl) b_29 (by show -149 ≤ p1.toInt + x56_l_6.toInt; have q0 := b_29.1; have q0' := b_29.2; have q1 := b_31.1; have q1' := b_31.2; have q2 := b_p1.1; have q2' := b_p1.2; have q3 := c56_p0.1; have q3' := c56_p0.2; omega) (lv_sub hl [2, 3, 5] rfl)
            · have l_45 : v_43.toInt = 1 := klc_eq e_44 c_45
              have b_47 : kl 1 1 v_43 := (by have q1 := b_43.1; have q2 := b_43.2; exact ⟨by omega, by omega⟩)
              have b_48 : kr 0 0 v_44 := kr_eq_l (kr_all v_44) (kr_c 0 0 rfl) c_45 rfl
              exact J_128 v_30 x56_l_6 _ b_31 b_29 (by show -149 ≤ p1.toInt + x56_l_6.toInt; have q0 := b_29.1; have q0' := b_29.2; have q1 := b_31.1; have q1' := b_31.2; have q2 := b_p1.1; have q2' := b_p1.2; have q3 := c56_p0.1; have q3' := c56_p0.2; omega) (lv_sub hl [2, 3, 5] rfl)
      · have i_28 : x56_l_6.toInt ≤ 0 := (ki_nlt c_28)
        have b_49 : kr (-349) 0 x56_l_6 := kr_le_l b_27 (kr_c 0 0 rfl) i_28 rfl
        have b_50 : kr (-24) 0 x56_l_6 := by have q0 := b_49.1; have q0' := b_49.2; have q1 := b_p1.1; have q1' := b_p1.2; have q2 := c56_p0.1; have q2' := c56_p0.2; exact ⟨by omega, by omega⟩
        refine lv_lload_n hx hb dX11_packedFloat_70 rfl (lv_at hl 1 rfl) ?_
        refine lv_iload hx hb dX11_packedFloat_71 (lv_at hl 0 rfl) ?_
        refine lv_ineg hx hb dX11_packedFloat_73 ?_
        refine lv_topi (fun v_51 e_51 => ?_)
        have t_51 : v_51.toInt = -x56_l_6.toInt := kt_neg e_51 b_50 rfl
        have b_51 : kr 0 24 v_51 := kr_neg t_51 b_50 rfl
        refine lv_lshl hx hb dX11_packedFloat_74 rfl ?_
        refine lv_topl (fun v_52 e_52 => ?_)
        have b_53 : kl 0 16777215 v_52 := kpf_shl e_52 t_51 r56_0 b_50 b_p0.1
        refine lv_lstore (lv' := [(4, .long v_52), (6, .int x56_l_6), (0, .long p0), (2, .int p1)]) hx hb dX11_packedFloat_75 hl (by decide) rfl (fun ls hl => ?_)
        refine lv_goto (tgt := 151) hx hb dX11_packedFloat_77 (by decide) ?_
        exact J_151 v_52 x56_l_6 _ b_53 (kr_w b_50 rfl) (by show -149 ≤ p1.toInt + x56_l_6.toInt; have q0 := b_50.1; have q0' := b_50.2; have q1 := b_53.1; have q1' := b_53.2; have q2 := b_p1.1; have q2' := b_p1.2; have q3 := c56_p0.1; have q3' := c56_p0.2; omega) (lv_sub hl [0, 1, 3] rfl)
    · have i_26 : 62 < x56_l_6.toInt := (ki_nle c_26)
      have b_54 : kr 63 251 x56_l_6 := kr_lt_r (kr_c 62 62 rfl) bx56_l_6 i_26 rfl
      refine lv_iconst (v := 0) hx hb dX11_packedFloat_63 (by decide) ?_
      subst hQQ
      exact kk_pret_i hx hb hr hlocks (kr_w (kr_c 0 0 rfl) rfl) dX11_packedFloat_64
  have J_30 : ∀ (x30_l_3 : Int32) (ls : Array Slot), kr 0 62 x30_l_3 → kl 1 288230376151711744 p0 → p0.toInt < 2 ^ Int32.toNatClampNeg x30_l_3 → lv_has ls 11 [(3, .int x30_l_3), (0, .long p0), (2, .int p1)] → W p l e ({ frames := 0, cells := 0, slots := 0, locals := 0 }) s m ([.long p0, .int p1] : List Value).toArray below meth c s.heap [] 0 0 QQ (F0 m 30 ls []) := by
    intro x30_l_3 ls bx30_l_3 c30_p0 r30_0 hl
    refine lv_lload_n hx hb dX11_packedFloat_30 rfl (lv_at hl 1 rfl) ?_
    refine lv_lstore (lv' := [(4, .long p0), (3, .int x30_l_3), (0, .long p0), (2, .int p1)]) hx hb dX11_packedFloat_31 hl (by decide) rfl (fun ls hl => ?_)
    refine lv_iload_n hx hb dX11_packedFloat_33 rfl (lv_at hl 1 rfl) ?_
    refine lv_bipush (v := 24) hx hb dX11_packedFloat_34 (by decide) ?_
    refine lv_isub hx hb dX11_packedFloat_36 ?_
    refine lv_topi (fun v_55 e_55 => ?_)
    have t_55 : v_55.toInt = x30_l_3.toInt - 24 := kt_sub e_55 bx30_l_3 (kr_c 24 24 rfl) rfl
    have b_55 : kr (-24) 38 v_55 := kr_sub (x := x30_l_3) (y := 24) t_55 bx30_l_3 (kr_c 24 24 rfl) rfl
    refine lv_istore (lv' := [(6, .int v_55), (4, .long p0), (3, .int x30_l_3), (0, .long p0), (2, .int p1)]) hx hb dX11_packedFloat_37 hl (by decide) rfl (fun ls hl => ?_)
    refine lv_iload_n hx hb dX11_packedFloat_39 rfl (lv_at hl 4 rfl) ?_
    refine lv_iload hx hb dX11_packedFloat_40 (lv_at hl 0 rfl) ?_
    refine lv_iadd hx hb dX11_packedFloat_42 ?_
    refine lv_topi (fun v_56 e_56 => ?_)
    have t_56 : v_56.toInt = p1.toInt + v_55.toInt := kt_add e_56 b_p1 b_55 rfl
    have b_56 : kr (-424) 238 v_56 := kr_add (x := p1) (y := v_55) t_56 b_p1 b_55 rfl
    refine lv_sipush (v := (-149)) hx hb dX11_packedFloat_43 (by decide) ?_
    refine lv_icmp_ge (tgt := 56) hx hb dX11_packedFloat_46 (by decide) (fun c_57 => ?_) (fun c_57 => ?_)
    · have i_57 : (-149) ≤ v_56.toInt := (ki_le c_57)
      have b_58 : kr (-149) 238 v_56 := kr_le_r (kr_c (-149) (-149) rfl) b_56 i_57 rfl
      exact J_56 v_55 _ (kr_w b_55 rfl) c30_p0 (kpf_by r30_0 bx30_l_3 (by have q0 := b_55.1; have q0' := b_55.2; have q1 := b_p1.1; have q1' := b_p1.2; have q2 := bx30_l_3.1; have q2' := bx30_l_3.2; have q3 := c30_p0.1; have q3' := c30_p0.2; omega)) (by show -24 ≤ v_55.toInt; have q0 := b_55.1; have q0' := b_55.2; have q1 := b_p1.1; have q1' := b_p1.2; have q2 := bx30_l_3.1; have q2' := bx30_l_3.2; have q3 := c30_p0.1; have q3' := c30_p0.2; omega) (by show -149 ≤ p1.toInt + v_55.toInt; have q0 := b_55.1; have q0' := b_55.2; have q1 := b_p1.1; have q1' := b_p1.2; have q2 := bx30_l_3.1; have q2' := bx30_l_3.2; have q3 := c30_p0.1; have q3' := c30_p0.2; omega) (lv_sub hl [0, 3, 4] rfl)
    · have i_57 : v_56.toInt < (-149) := (ki_nle c_57)
      have b_59 : kr (-424) (-150) v_56 := kr_lt_l b_56 (kr_c (-149) (-149) rfl) i_57 rfl
      refine lv_sipush (v := (-149)) hx hb dX11_packedFloat_49 (by decide) ?_
      refine lv_iload_n hx hb dX11_packedFloat_52 rfl (lv_at hl 4 rfl) ?_
      refine lv_isub hx hb dX11_packedFloat_53 ?_
      refine lv_topi (fun v_60 e_60 => ?_)
      have t_60 : v_60.toInt = (-149) - p1.toInt := kt_sub e_60 (kr_c (-149) (-149) rfl) b_p1 rfl
      have b_60 : kr (-349) 251 v_60 := kr_sub (x := (-149)) (y := p1) t_60 (kr_c (-149) (-149) rfl) b_p1 rfl
      refine lv_istore (lv' := [(6, .int v_60), (4, .long p0), (3, .int x30_l_3), (0, .long p0), (2, .int p1)]) hx hb dX11_packedFloat_54 hl (by decide) rfl (fun ls hl => ?_)
      exact J_56 v_60 _ b_60 c30_p0 (kpf_by r30_0 bx30_l_3 (by have q0 := b_60.1; have q0' := b_60.2; have q1 := b_p1.1; have q1' := b_p1.2; have q2 := bx30_l_3.1; have q2' := bx30_l_3.2; have q3 := c30_p0.1; have q3' := c30_p0.2; omega)) (by show -24 ≤ v_60.toInt; have q0 := b_60.1; have q0' := b_60.2; have q1 := b_p1.1; have q1' := b_p1.2; have q2 := bx30_l_3.1; have q2' := bx30_l_3.2; have q3 := c30_p0.1; have q3' := c30_p0.2; omega) (by show -149 ≤ p1.toInt + v_60.toInt; have q0 := b_60.1; have q0' := b_60.2; have q1 := b_p1.1; have q1' := b_p1.2; have q2 := bx30_l_3.1; have q2' := bx30_l_3.2; have q3 := c30_p0.1; have q3' := c30_p0.2; omega) (lv_sub hl [0, 3, 4] rfl)
  have J_10 : ∀ (n : Nat) (x10_l_3 : Int32) (ls : Array Slot), (62 - x10_l_3.toInt).toNat < n → kr 0 62 x10_l_3 → kl 1 288230376151711744 p0 → lv_has ls 11 [(3, .int x10_l_3), (0, .long p0), (2, .int p1)] → W p l e ({ frames := 0, cells := 0, slots := 0, locals := 0 }) s m ([.long p0, .int p1] : List Value).toArray below meth c s.heap [] 0 0 QQ (F0 m 10 ls []) := by
    intro n
    induction n with
    | zero =>
      intro x10_l_3 ls hn_10 bx10_l_3 c10_p0 hl
      exact absurd hn_10 (Nat.not_lt_zero _)
    | succ n ih_10 =>
      intro x10_l_3 ls hn_10 bx10_l_3 c10_p0 hl
      refine lv_iload_n hx hb dX11_packedFloat_10 rfl (lv_at hl 0 rfl) ?_
      refine lv_bipush (v := 62) hx hb dX11_packedFloat_11 (by decide) ?_
      refine lv_icmp_ge (tgt := 30) hx hb dX11_packedFloat_13 (by decide) (fun c_61 => ?_) (fun c_61 => ?_)
      · have i_61 : 62 ≤ x10_l_3.toInt := (ki_le c_61)
        have b_62 : kr 62 62 x10_l_3 := kr_le_r (kr_c 62 62 rfl) bx10_l_3 i_61 rfl
        exact J_30 x10_l_3 _ (kr_w b_62 rfl) c10_p0 (kpf_62 b_62 b_p0 rfl) (lv_sub hl [0, 1, 2] rfl)
      · have i_61 : x10_l_3.toInt < 62 := (ki_nle c_61)
        have b_63 : kr 0 61 x10_l_3 := kr_lt_l bx10_l_3 (kr_c 62 62 rfl) i_61 rfl
        refine lv_lload_n hx hb dX11_packedFloat_16 rfl (lv_at hl 1 rfl) ?_
        refine lv_iload_n hx hb dX11_packedFloat_17 rfl (lv_at hl 0 rfl) ?_
        refine lv_lshr hx hb dX11_packedFloat_18 rfl ?_
        refine lv_topl (fun v_64 e_64 => ?_)
        have t_64 : v_64.toInt = p0.toInt / 2 ^ (Int32.toNatClampNeg x10_l_3) := kt_lshr e_64 c10_p0 b_63 rfl
        have b_64 : kl 0 288230376151711744 v_64 := kl_shr t_64 c10_p0 b_63 rfl
        refine lv_lconst (v := 0) hx hb dX11_packedFloat_19 (by decide) ?_
        refine W.lcmp hx hb dX11_packedFloat_20 ?_
        refine lv_topi (fun v_65 e_65 => ?_)
        refine lv_if_le (tgt := 30) hx hb dX11_packedFloat_21 (by decide) (fun c_66 => ?_) (fun c_66 => ?_)
        · have l_66 : v_64.toInt ≤ 0 := klc_le e_65 (ki_le c_66)
          have b_67 : kl 0 0 v_64 := (by have q1 := b_64.1; have q2 := b_64.2; exact ⟨by omega, by omega⟩)
          have i_66 : v_65.toInt ≤ 0 := (ki_le c_66)
          have b_68 : kr (-2147483648) 0 v_65 := kr_le_l (kr_all v_65) (kr_c 0 0 rfl) i_66 rfl
          exact J_30 x10_l_3 _ (kr_w b_63 rfl) c10_p0 (kpf_lt t_64 l_66) (lv_sub hl [0, 1, 2] rfl)
        · have l_66 : 0 < v_64.toInt := klc_gt e_65 (ki_nle c_66)
          have b_69 : kl 1 288230376151711744 v_64 := (by have q1 := b_64.1; have q2 := b_64.2; exact ⟨by omega, by omega⟩)
          have i_66 : 0 < v_65.toInt := (ki_nle c_66)
          have b_70 : kr 1 2147483647 v_65 := kr_lt_r (kr_c 0 0 rfl) (kr_all v_65) i_66 rfl
          obtain ⟨v_71, e_71⟩ : ∃ y : Int32, y = x10_l_3 + 1 := ⟨_, rfl⟩
          have t_71 : v_71.toInt = x10_l_3.toInt + 1 := kt_add e_71 b_63 (kr_c 1 1 rfl) rfl
          have b_71 : kr 1 62 v_71 := kr_add (x := x10_l_3) (y := 1) t_71 b_63 (kr_c 1 1 rfl) rfl
          refine lv_iinc (v := v_71) (lv' := [(3, .int v_71), (0, .long p0), (2, .int p1)]) hx hb dX11_packedFloat_24 hl (k := 0) rfl (by rw [e_71]; rfl) (by decide) rfl (fun ls hl => ?_)
          refine lv_goto (tgt := 10) hx hb dX11_packedFloat_27 (by decide) ?_
          exact ih_10 v_71 _ (km_up hn_10 t_71 b_71 rfl) (kr_w b_71 rfl) c10_p0 (lv_sub hl [0, 1, 2] rfl)
  refine lv_lload_n hx hb dX11_packedFloat_0 rfl (lv_at hl 0 rfl) ?_
  refine lv_lconst (v := 0) hx hb dX11_packedFloat_1 (by decide) ?_
  refine W.lcmp hx hb dX11_packedFloat_2 ?_
  refine lv_topi (fun v_72 e_72 => ?_)
  refine lv_if_ne (tgt := 8) hx hb dX11_packedFloat_3 (by decide) (fun c_73 => ?_) (fun c_73 => ?_)
  · have l_73 : ¬ p0.toInt = 0 := klc_ne e_72 c_73
    have b_74 : kl 1 288230376151711744 p0 := (by have q1 := b_p0.1; have q2 := b_p0.2; exact ⟨by omega, by omega⟩)
    refine lv_iconst (v := 0) hx hb dX11_packedFloat_8 (by decide) ?_
    refine lv_istore_n (lv' := [(3, .int 0), (0, .long p0), (2, .int p1)]) hx hb dX11_packedFloat_9 rfl hl (by decide) rfl (fun ls hl => ?_)
    exact J_10 _ 0 _ (Nat.lt_succ_self _) (kr_w (kr_c 0 0 rfl) rfl) b_74 (lv_sub hl [0, 1, 2] rfl)
  · have l_73 : p0.toInt = 0 := klc_eq e_72 c_73
    have b_75 : kl 0 0 p0 := (by have q1 := b_p0.1; have q2 := b_p0.2; exact ⟨by omega, by omega⟩)
    have b_76 : kr 0 0 v_72 := kr_eq_l (kr_all v_72) (kr_c 0 0 rfl) c_73 rfl
    refine lv_iconst (v := 0) hx hb dX11_packedFloat_6 (by decide) ?_
    subst hQQ
    exact kk_pret_i hx hb hr hlocks (kr_w (kr_c 0 0 rfl) rfl) dX11_packedFloat_7
set_option maxHeartbeats 4000000 in
set_option maxRecDepth 100000 in
theorem c_X11_wholeOf_f (l : Launch) (D : va_G) (cB cI cJ cD : ClassId) (p0 : Int32) (sz : Nat) (b_p0 : kr 0 2147483647 p0) : Met l yX11_wholeOf (kk_W yX11_wholeOf cX11_wholeOf 1 (some .long)) ({ frames := 0, cells := 0, slots := 0, locals := 0 }) (va_Pc [.int p0] (kk_pre D cB cI cJ cD [] sz)) (vp_Sl (fun r => kl 0 16777215 r ∧ (1 ≤ p0.toInt → 1 ≤ r.toInt))) 0 0 (fun _ => False) := by
  refine kk_pstart (y := yX11_wholeOf) (maxL := 1) (av := [.int p0]) (by decide) (Nat.le_of_ble_eq_true rfl) ?_
  intro p e s m below meth c ls hx hb hr hml hown hts hE hlocks hsz hP hD hl
  have hown : s.vm.findClass RX11 = some m.cls := hown
  have hl : lv_has ls 1 [(0, .int p0)] := hl
  refine lv_iload_n hx hb dX11_wholeOf_0 rfl (lv_at hl 0 rfl) ?_
  refine lv_ldc (v := 8388607) hx hb hown (hts _ w_1521) dX11_wholeOf_1 ?_
  refine lv_iand hx hb dX11_wholeOf_3 ?_
  refine lv_topi (fun v_1 e_1 => ?_)
  have b_1 : kr 0 8388607 v_1 := kr_and e_1 23 (by decide) rfl
  refine lv_iload_n hx hb dX11_wholeOf_4 rfl (lv_at hl 0 rfl) ?_
  refine lv_ldc (v := 8388608) hx hb hown (hts _ w_1522) dX11_wholeOf_5 ?_
  refine lv_icmp_ge (tgt := 14) hx hb dX11_wholeOf_7 (by decide) (fun c_2 => ?_) (fun c_2 => ?_)
  · have i_2 : 8388608 ≤ p0.toInt := (ki_le c_2)
    have b_3 : kr 8388608 2147483647 p0 := kr_le_r (kr_c 8388608 8388608 rfl) b_p0 i_2 rfl
    refine lv_ldc (v := 8388608) hx hb hown (hts _ w_1522) dX11_wholeOf_14 ?_
    refine lv_ior hx hb dX11_wholeOf_16 ?_
    refine lv_topi (fun v_4 e_4 => ?_)
    have b_4 : kr 8388608 16777215 v_4 := kr_or e_4 24 b_1 (kr_c 8388608 8388608 rfl) rfl
    refine lv_i2l hx hb dX11_wholeOf_17 rfl ?_
    refine lv_topl (fun v_5 e_5 => ?_)
    have t_5 : v_5.toInt = v_4.toInt := kl_ti e_5
    have b_5 : kl 8388608 16777215 v_5 := kl_i2l e_5 b_4
    exact kk_pret_l hx hb hr hlocks ⟨(kl_w b_5 rfl), (fun _ => by have q := b_5.1; omega)⟩ dX11_wholeOf_18
  · have i_2 : p0.toInt < 8388608 := (ki_nle c_2)
    have b_6 : kr 0 8388607 p0 := kr_lt_l b_p0 (kr_c 8388608 8388608 rfl) i_2 rfl
    refine lv_iconst (v := 0) hx hb dX11_wholeOf_10 (by decide) ?_
    refine lv_goto (tgt := 16) hx hb dX11_wholeOf_11 (by decide) ?_
    refine lv_ior hx hb dX11_wholeOf_16 ?_
    refine lv_topi (fun v_7 e_7 => ?_)
    have b_7 : kr 0 8388607 v_7 := kr_or e_7 23 b_1 (kr_c 0 0 rfl) rfl
    refine lv_i2l hx hb dX11_wholeOf_17 rfl ?_
    refine lv_topl (fun v_8 e_8 => ?_)
    have t_8 : v_8.toInt = v_7.toInt := kl_ti e_8
    have b_8 : kl 0 8388607 v_8 := kl_i2l e_8 b_7
    exact kk_pret_l hx hb hr hlocks ⟨(kl_w b_8 rfl), (fun h9 => by rw [kwh_a b_6 e_1 e_7 t_8]; exact h9)⟩ dX11_wholeOf_18
set_option maxHeartbeats 4000000 in
set_option maxRecDepth 100000 in
theorem c_X11_powerOf_f (l : Launch) (D : va_G) (cB cI cJ cD : ClassId) (p0 : Int32) (sz : Nat) (b_p0 : kr 0 2147483647 p0) : Met l yX11_powerOf (kk_W yX11_powerOf cX11_powerOf 1 (some .int)) ({ frames := 0, cells := 0, slots := 0, locals := 0 }) (va_Pc [.int p0] (kk_pre D cB cI cJ cD [] sz)) (vp_Si (fun r => kr (-149) 105 r ∧ r.toInt = (if p0.toInt < 8388608 then -149 else p0.toInt / 8388608 - 150))) 0 0 (fun _ => False) := by
  refine kk_pstart (y := yX11_powerOf) (maxL := 1) (av := [.int p0]) (by decide) (Nat.le_of_ble_eq_true rfl) ?_
  intro p e s m below meth c ls hx hb hr hml hown hts hE hlocks hsz hP hD hl
  have hown : s.vm.findClass RX11 = some m.cls := hown
  have hl : lv_has ls 1 [(0, .int p0)] := hl
  refine lv_iload_n hx hb dX11_powerOf_0 rfl (lv_at hl 0 rfl) ?_
  refine lv_ldc (v := 8388608) hx hb hown (hts _ w_1522) dX11_powerOf_1 ?_
  refine lv_icmp_ge (tgt := 12) hx hb dX11_powerOf_3 (by decide) (fun c_1 => ?_) (fun c_1 => ?_)
  · have i_1 : 8388608 ≤ p0.toInt := (ki_le c_1)
    have b_2 : kr 8388608 2147483647 p0 := kr_le_r (kr_c 8388608 8388608 rfl) b_p0 i_1 rfl
    refine lv_iload_n hx hb dX11_powerOf_12 rfl (lv_at hl 0 rfl) ?_
    refine lv_bipush (v := 23) hx hb dX11_powerOf_13 (by decide) ?_
    refine lv_ishr hx hb dX11_powerOf_15 ?_
    refine lv_topi (fun v_3 e_3 => ?_)
    have t_3 : v_3.toInt = p0.toInt / 8388608 := kt_shr 23 e_3 b_2 (by decide) rfl
    have b_3 : kr 1 255 v_3 := kr_div t_3 b_2 rfl
    refine lv_sipush (v := 150) hx hb dX11_powerOf_16 (by decide) ?_
    refine lv_isub hx hb dX11_powerOf_19 ?_
    refine lv_topi (fun v_4 e_4 => ?_)
    have t_4 : v_4.toInt = v_3.toInt - 150 := kt_sub e_4 b_3 (kr_c 150 150 rfl) rfl
    have b_4 : kr (-149) 105 v_4 := kr_sub (x := v_3) (y := 150) t_4 b_3 (kr_c 150 150 rfl) rfl
    exact kk_pret_i hx hb hr hlocks ⟨b_4, (by rw [if_neg (by have q := i_1; omega), t_4, t_3])⟩ dX11_powerOf_20
  · have i_1 : p0.toInt < 8388608 := (ki_nle c_1)
    have b_5 : kr 0 8388607 p0 := kr_lt_l b_p0 (kr_c 8388608 8388608 rfl) i_1 rfl
    refine lv_sipush (v := (-149)) hx hb dX11_powerOf_6 (by decide) ?_
    refine lv_goto (tgt := 20) hx hb dX11_powerOf_9 (by decide) ?_
    exact kk_pret_i hx hb hr hlocks ⟨(kr_w (kr_c (-149) (-149) rfl) rfl), (by rw [if_pos i_1]; rfl)⟩ dX11_powerOf_20
set_option maxHeartbeats 4000000 in
set_option maxRecDepth 100000 in
theorem c_X11_besides_f (l : Launch) (D : va_G) (cB cI cJ cD : ClassId) (p0 : Int32) (p1 : Int32) (sz : Nat) (b_p0 : kr 0 2147483647 p0) (b_p1 : kr 0 2147483647 p1) (hle : p1.toInt ≤ p0.toInt) : Met l yX11_besides (kk_W yX11_besides cX11_besides 3 (some .long)) ({ frames := 1, cells := 0, slots := 0, locals := 20 }) (va_Pc [.int p0, .int p1] (kk_pre D cB cI cJ cD [] sz)) (vp_Sl (fun r => kl 0 18014397435740160 r)) 0 0 (fun _ => False) := by
  refine kk_pstart (y := yX11_besides) (maxL := 3) (av := [.int p0, .int p1]) (by decide) (Nat.le_of_ble_eq_true rfl) ?_
  intro p e s m below meth c ls hx hb hr hml hown hts hE hlocks hsz hP hD hl
  have hown : s.vm.findClass RX11 = some m.cls := hown
  have hl : lv_has ls 3 [(0, .int p0), (1, .int p1)] := hl
  refine lv_iload_n hx hb dX11_besides_0 rfl (lv_at hl 1 rfl) ?_
  refine lv_if_ne (tgt := 6) hx hb dX11_besides_1 (by decide) (fun c_1 => ?_) (fun c_1 => ?_)
  · have b_2 : kr 1 2147483647 p1 := kr_ne_lo b_p1 c_1 rfl
    refine lv_iload_n hx hb dX11_besides_6 rfl (lv_at hl 0 rfl) ?_
    refine kk_pi (kk_runS (w1 := []) (As := [.int p0]) (rest := []) hx hb hml hown hts hE (c_X11_powerOf_f l D cB cI cJ cD p0 s.heap.size b_p0) m_X11_powerOf w_1527 ⟨rfl, rfl, Nat.le_of_ble_eq_true rfl, Nat.le_of_ble_eq_true rfl⟩ (hP.sub [] rfl) (hD.sub [] (by decide +kernel) rfl) rfl hl.1 (Nat.le_of_ble_eq_true rfl) dX11_besides_7 ⟨Nat.le_of_ble_eq_true rfl, Nat.le_of_ble_eq_true rfl⟩) (fun r_3 p_3 => ?_)
    have b_3 : kr (-149) 105 r_3 := p_3.1
    have g_4 : r_3.toInt = (if p0.toInt < 8388608 then -149 else p0.toInt / 8388608 - 150) := p_3.2
    refine lv_iload_n hx hb dX11_besides_10 rfl (lv_at hl 1 rfl) ?_
    refine kk_pi (kk_runS (w1 := []) (As := [.int p1]) (rest := [.int r_3]) hx hb hml hown hts hE (c_X11_powerOf_f l D cB cI cJ cD p1 s.heap.size (kr_w b_2 rfl)) m_X11_powerOf w_1527 ⟨rfl, rfl, Nat.le_of_ble_eq_true rfl, Nat.le_of_ble_eq_true rfl⟩ (hP.sub [] rfl) (hD.sub [] (by decide +kernel) rfl) rfl hl.1 (Nat.le_of_ble_eq_true rfl) dX11_besides_11 ⟨Nat.le_of_ble_eq_true rfl, Nat.le_of_ble_eq_true rfl⟩) (fun r_5 p_5 => ?_)
    have b_5 : kr (-149) 105 r_5 := p_5.1
    have g_6 : r_5.toInt = (if p1.toInt < 8388608 then -149 else p1.toInt / 8388608 - 150) := p_5.2
    refine lv_isub hx hb dX11_besides_14 ?_
    refine lv_topi (fun v_7 e_7 => ?_)
    have t_7 : v_7.toInt = r_3.toInt - r_5.toInt := kt_sub e_7 b_3 b_5 rfl
    have b_7 : kr (-254) 254 v_7 := kr_sub (x := r_3) (y := r_5) t_7 b_3 b_5 rfl
    refine lv_istore_n (lv' := [(2, .int v_7), (0, .int p0), (1, .int p1)]) hx hb dX11_besides_15 rfl hl (by decide) rfl (fun ls hl => ?_)
    have b_8 : kr 0 254 v_7 := ⟨by have q := kpw_le b_p1.1 hle; rw [← g_4, ← g_6] at q; omega, b_7.2⟩
    refine lv_iload_n hx hb dX11_besides_16 rfl (lv_at hl 0 rfl) ?_
    refine lv_bipush (v := 30) hx hb dX11_besides_17 (by decide) ?_
    refine lv_icmp_gt (tgt := 34) hx hb dX11_besides_19 (by decide) (fun c_9 => ?_) (fun c_9 => ?_)
    · have i_9 : 30 < v_7.toInt := (ki_lt c_9)
      have b_10 : kr 31 254 v_7 := kr_lt_r (kr_c 30 30 rfl) b_8 i_9 rfl
      refine lv_iload_n hx hb dX11_besides_34 rfl (lv_at hl 0 rfl) ?_
      refine lv_bipush (v := 54) hx hb dX11_besides_35 (by decide) ?_
      refine lv_icmp_le (tgt := 44) hx hb dX11_besides_37 (by decide) (fun c_11 => ?_) (fun c_11 => ?_)
      · have i_11 : v_7.toInt ≤ 54 := (ki_le c_11)
        have b_12 : kr 31 54 v_7 := kr_le_l b_10 (kr_c 54 54 rfl) i_11 rfl
        refine lv_iload_n hx hb dX11_besides_44 rfl (lv_at hl 2 rfl) ?_
        refine kk_pl (kk_runS (w1 := []) (As := [.int p1]) (rest := []) hx hb hml hown hts hE (c_X11_wholeOf_f l D cB cI cJ cD p1 s.heap.size (kr_w b_2 rfl)) m_X11_wholeOf w_1518 ⟨rfl, rfl, Nat.le_of_ble_eq_true rfl, Nat.le_of_ble_eq_true rfl⟩ (hP.sub [] rfl) (hD.sub [] (by decide +kernel) rfl) rfl hl.1 (Nat.le_of_ble_eq_true rfl) dX11_besides_45 ⟨Nat.le_of_ble_eq_true rfl, Nat.le_of_ble_eq_true rfl⟩) (fun r_13 p_13 => ?_)
        have b_13 : kl 0 16777215 r_13 := p_13.1
        have g_14 : (1 ≤ p1.toInt → 1 ≤ r_13.toInt) := p_13.2
        refine lv_iload_n hx hb dX11_besides_48 rfl (lv_at hl 0 rfl) ?_
        refine lv_bipush (v := 30) hx hb dX11_besides_49 (by decide) ?_
        refine lv_isub hx hb dX11_besides_51 ?_
        refine lv_topi (fun v_15 e_15 => ?_)
        have t_15 : v_15.toInt = v_7.toInt - 30 := kt_sub e_15 b_12 (kr_c 30 30 rfl) rfl
        have b_15 : kr 1 24 v_15 := kr_sub (x := v_7) (y := 30) t_15 b_12 (kr_c 30 30 rfl) rfl
        refine lv_lshr hx hb dX11_besides_52 rfl ?_
        refine lv_topl (fun v_16 e_16 => ?_)
        have t_16 : v_16.toInt = r_13.toInt / 2 ^ (Int32.toNatClampNeg v_15) := kt_lshr e_16 b_13 b_15 rfl
        have b_16 : kl 0 8388607 v_16 := kl_shr t_16 b_13 b_15 rfl
        exact kk_pret_l hx hb hr hlocks (kl_w b_16 rfl) dX11_besides_53
      · have i_11 : 54 < v_7.toInt := (ki_nle c_11)
        have b_17 : kr 55 254 v_7 := kr_lt_r (kr_c 54 54 rfl) b_10 i_11 rfl
        refine lv_lconst (v := 0) hx hb dX11_besides_40 (by decide) ?_
        refine lv_goto (tgt := 53) hx hb dX11_besides_41 (by decide) ?_
        exact kk_pret_l hx hb hr hlocks (kl_w (kl_c 0 0 rfl) rfl) dX11_besides_53
    · have i_9 : v_7.toInt ≤ 30 := (ki_nlt c_9)
      have b_18 : kr 0 30 v_7 := kr_le_l b_8 (kr_c 30 30 rfl) i_9 rfl
      refine lv_iload_n hx hb dX11_besides_22 rfl (lv_at hl 2 rfl) ?_
      refine kk_pl (kk_runS (w1 := []) (As := [.int p1]) (rest := []) hx hb hml hown hts hE (c_X11_wholeOf_f l D cB cI cJ cD p1 s.heap.size (kr_w b_2 rfl)) m_X11_wholeOf w_1518 ⟨rfl, rfl, Nat.le_of_ble_eq_true rfl, Nat.le_of_ble_eq_true rfl⟩ (hP.sub [] rfl) (hD.sub [] (by decide +kernel) rfl) rfl hl.1 (Nat.le_of_ble_eq_true rfl) dX11_besides_23 ⟨Nat.le_of_ble_eq_true rfl, Nat.le_of_ble_eq_true rfl⟩) (fun r_19 p_19 => ?_)
      have b_19 : kl 0 16777215 r_19 := p_19.1
      have g_20 : (1 ≤ p1.toInt → 1 ≤ r_19.toInt) := p_19.2
      refine lv_bipush (v := 30) hx hb dX11_besides_26 (by decide) ?_
      refine lv_iload_n hx hb dX11_besides_28 rfl (lv_at hl 0 rfl) ?_
      refine lv_isub hx hb dX11_besides_29 ?_
      refine lv_topi (fun v_21 e_21 => ?_)
      have t_21 : v_21.toInt = 30 - v_7.toInt := kt_sub e_21 (kr_c 30 30 rfl) b_18 rfl
      have b_21 : kr 0 30 v_21 := kr_sub (x := 30) (y := v_7) t_21 (kr_c 30 30 rfl) b_18 rfl
      refine lv_lshl hx hb dX11_besides_30 rfl ?_
      refine lv_topl (fun v_22 e_22 => ?_)
      have t_22 : v_22.toInt = r_19.toInt * 2 ^ (Int32.toNatClampNeg v_21) := kt_lshl e_22 b_19 b_21 rfl
      have b_22 : kl 0 18014397435740160 v_22 := kl_shl t_22 b_19 b_21 rfl
      refine lv_goto (tgt := 53) hx hb dX11_besides_31 (by decide) ?_
      exact kk_pret_l hx hb hr hlocks b_22 dX11_besides_53
  · have b_23 : kr 0 0 p1 := kr_eq_l b_p1 (kr_c 0 0 rfl) c_1 rfl
    refine lv_lconst (v := 0) hx hb dX11_besides_4 (by decide) ?_
    exact kk_pret_l hx hb hr hlocks (kl_w (kl_c 0 0 rfl) rfl) dX11_besides_5
set_option maxHeartbeats 4000000 in
set_option maxRecDepth 100000 in
theorem c_X11_powerOf (l : Launch) (D : va_G) (cB cI cJ cD : ClassId) (p0 : Int32) (sz : Nat) : Met l yX11_powerOf (kk_W yX11_powerOf cX11_powerOf 1 (some .int)) ({ frames := 0, cells := 0, slots := 0, locals := 0 }) (va_Pc [.int p0] (kk_pre D cB cI cJ cD [] sz)) (vp_Si (fun r => True)) 0 0 (fun _ => False) := by
  refine kk_pstart (y := yX11_powerOf) (maxL := 1) (av := [.int p0]) (by decide) (Nat.le_of_ble_eq_true rfl) ?_
  intro p e s m below meth c ls hx hb hr hml hown hts hE hlocks hsz hP hD hl
  have hown : s.vm.findClass RX11 = some m.cls := hown
  have hl : lv_has ls 1 [(0, .int p0)] := hl
  refine lv_iload_n hx hb dX11_powerOf_0 rfl (lv_at hl 0 rfl) ?_
  refine lv_ldc (v := 8388608) hx hb hown (hts _ w_1522) dX11_powerOf_1 ?_
  refine lv_icmp_ge (tgt := 12) hx hb dX11_powerOf_3 (by decide) (fun c_1 => ?_) (fun c_1 => ?_)
  · have i_1 : 8388608 ≤ p0.toInt := (ki_le c_1)
    have b_2 : kr 8388608 2147483647 p0 := kr_le_r (kr_c 8388608 8388608 rfl) (kr_all p0) i_1 rfl
    refine lv_iload_n hx hb dX11_powerOf_12 rfl (lv_at hl 0 rfl) ?_
    refine lv_bipush (v := 23) hx hb dX11_powerOf_13 (by decide) ?_
    refine lv_ishr hx hb dX11_powerOf_15 ?_
    refine lv_topi (fun v_3 e_3 => ?_)
    refine lv_sipush (v := 150) hx hb dX11_powerOf_16 (by decide) ?_
    refine lv_isub hx hb dX11_powerOf_19 ?_
    refine lv_topi (fun v_4 e_4 => ?_)
    exact kk_pret_i hx hb hr hlocks trivial dX11_powerOf_20
  · have i_1 : p0.toInt < 8388608 := (ki_nle c_1)
    have b_5 : kr (-2147483648) 8388607 p0 := kr_lt_l (kr_all p0) (kr_c 8388608 8388608 rfl) i_1 rfl
    refine lv_sipush (v := (-149)) hx hb dX11_powerOf_6 (by decide) ?_
    refine lv_goto (tgt := 20) hx hb dX11_powerOf_9 (by decide) ?_
    exact kk_pret_i hx hb hr hlocks trivial dX11_powerOf_20
set_option maxHeartbeats 4000000 in
set_option maxRecDepth 100000 in
theorem c_X11_wholeOf (l : Launch) (D : va_G) (cB cI cJ cD : ClassId) (p0 : Int32) (sz : Nat) : Met l yX11_wholeOf (kk_W yX11_wholeOf cX11_wholeOf 1 (some .long)) ({ frames := 0, cells := 0, slots := 0, locals := 0 }) (va_Pc [.int p0] (kk_pre D cB cI cJ cD [] sz)) (vp_Sl (fun r => True)) 0 0 (fun _ => False) := by
  refine kk_pstart (y := yX11_wholeOf) (maxL := 1) (av := [.int p0]) (by decide) (Nat.le_of_ble_eq_true rfl) ?_
  intro p e s m below meth c ls hx hb hr hml hown hts hE hlocks hsz hP hD hl
  have hown : s.vm.findClass RX11 = some m.cls := hown
  have hl : lv_has ls 1 [(0, .int p0)] := hl
  refine lv_iload_n hx hb dX11_wholeOf_0 rfl (lv_at hl 0 rfl) ?_
  refine lv_ldc (v := 8388607) hx hb hown (hts _ w_1521) dX11_wholeOf_1 ?_
  refine lv_iand hx hb dX11_wholeOf_3 ?_
  refine lv_topi (fun v_1 e_1 => ?_)
  have b_1 : kr 0 8388607 v_1 := kr_and e_1 23 (by decide) rfl
  refine lv_iload_n hx hb dX11_wholeOf_4 rfl (lv_at hl 0 rfl) ?_
  refine lv_ldc (v := 8388608) hx hb hown (hts _ w_1522) dX11_wholeOf_5 ?_
  refine lv_icmp_ge (tgt := 14) hx hb dX11_wholeOf_7 (by decide) (fun c_2 => ?_) (fun c_2 => ?_)
  · have i_2 : 8388608 ≤ p0.toInt := (ki_le c_2)
    have b_3 : kr 8388608 2147483647 p0 := kr_le_r (kr_c 8388608 8388608 rfl) (kr_all p0) i_2 rfl
    refine lv_ldc (v := 8388608) hx hb hown (hts _ w_1522) dX11_wholeOf_14 ?_
    refine lv_ior hx hb dX11_wholeOf_16 ?_
    refine lv_topi (fun v_4 e_4 => ?_)
    refine lv_i2l hx hb dX11_wholeOf_17 rfl ?_
    refine lv_topl (fun v_5 e_5 => ?_)
    exact kk_pret_l hx hb hr hlocks trivial dX11_wholeOf_18
  · have i_2 : p0.toInt < 8388608 := (ki_nle c_2)
    have b_6 : kr (-2147483648) 8388607 p0 := kr_lt_l (kr_all p0) (kr_c 8388608 8388608 rfl) i_2 rfl
    refine lv_iconst (v := 0) hx hb dX11_wholeOf_10 (by decide) ?_
    refine lv_goto (tgt := 16) hx hb dX11_wholeOf_11 (by decide) ?_
    refine lv_ior hx hb dX11_wholeOf_16 ?_
    refine lv_topi (fun v_7 e_7 => ?_)
    refine lv_i2l hx hb dX11_wholeOf_17 rfl ?_
    refine lv_topl (fun v_8 e_8 => ?_)
    exact kk_pret_l hx hb hr hlocks trivial dX11_wholeOf_18
set_option maxHeartbeats 4000000 in
set_option maxRecDepth 100000 in
theorem c_X11_isMore (l : Launch) (D : va_G) (cB cI cJ cD : ClassId) (p0 : Int32) (p1 : Int32) (sz : Nat) : Met l yX11_isMore (kk_W yX11_isMore cX11_isMore 3 (some .boolean)) ({ frames := 1, cells := 0, slots := 0, locals := 20 }) (va_Pc [.int p0, .int p1] (kk_pre D cB cI cJ cD [] sz)) (vp_Si (fun r => kr 0 1 r)) 0 0 (fun _ => False) := by
  refine kk_pstart (y := yX11_isMore) (maxL := 3) (av := [.int p0, .int p1]) (by decide) (Nat.le_of_ble_eq_true rfl) ?_
  intro p e s m below meth c ls hx hb hr hml hown hts hE hlocks hsz hP hD hl
  have hown : s.vm.findClass RX11 = some m.cls := hown
  have hl : lv_has ls 3 [(0, .int p0), (1, .int p1)] := hl
  refine lv_iload_n hx hb dX11_isMore_0 rfl (lv_at hl 1 rfl) ?_
  refine lv_if_ne (tgt := 6) hx hb dX11_isMore_1 (by decide) (fun c_1 => ?_) (fun c_1 => ?_)
  · refine lv_iload_n hx hb dX11_isMore_6 rfl (lv_at hl 0 rfl) ?_
    refine kk_pi (kk_runS (w1 := []) (As := [.int p0]) (rest := []) hx hb hml hown hts hE (c_X11_powerOf l D cB cI cJ cD p0 s.heap.size) m_X11_powerOf w_1527 ⟨rfl, rfl, Nat.le_of_ble_eq_true rfl, Nat.le_of_ble_eq_true rfl⟩ (hP.sub [] rfl) (hD.sub [] (by decide +kernel) rfl) rfl hl.1 (Nat.le_of_ble_eq_true rfl) dX11_isMore_7 ⟨Nat.le_of_ble_eq_true rfl, Nat.le_of_ble_eq_true rfl⟩) (fun r_2 p_2 => ?_)
    refine lv_iload_n hx hb dX11_isMore_10 rfl (lv_at hl 1 rfl) ?_
    refine kk_pi (kk_runS (w1 := []) (As := [.int p1]) (rest := [.int r_2]) hx hb hml hown hts hE (c_X11_powerOf l D cB cI cJ cD p1 s.heap.size) m_X11_powerOf w_1527 ⟨rfl, rfl, Nat.le_of_ble_eq_true rfl, Nat.le_of_ble_eq_true rfl⟩ (hP.sub [] rfl) (hD.sub [] (by decide +kernel) rfl) rfl hl.1 (Nat.le_of_ble_eq_true rfl) dX11_isMore_11 ⟨Nat.le_of_ble_eq_true rfl, Nat.le_of_ble_eq_true rfl⟩) (fun r_3 p_3 => ?_)
    refine lv_isub hx hb dX11_isMore_14 ?_
    refine lv_topi (fun v_4 e_4 => ?_)
    refine lv_bipush (v := 30) hx hb dX11_isMore_15 (by decide) ?_
    refine lv_isub hx hb dX11_isMore_17 ?_
    refine lv_topi (fun v_5 e_5 => ?_)
    refine lv_istore_n (lv' := [(2, .int v_5), (0, .int p0), (1, .int p1)]) hx hb dX11_isMore_18 rfl hl (by decide) rfl (fun ls hl => ?_)
    refine lv_iload_n hx hb dX11_isMore_19 rfl (lv_at hl 0 rfl) ?_
    refine lv_bipush (v := 24) hx hb dX11_isMore_20 (by decide) ?_
    refine lv_icmp_gt (tgt := 45) hx hb dX11_isMore_22 (by decide) (fun c_6 => ?_) (fun c_6 => ?_)
    · have i_6 : 24 < v_5.toInt := (ki_lt c_6)
      have b_7 : kr 25 2147483647 v_5 := kr_lt_r (kr_c 24 24 rfl) (kr_all v_5) i_6 rfl
      refine lv_iconst (v := 1) hx hb dX11_isMore_45 (by decide) ?_
      refine lv_goto (tgt := 50) hx hb dX11_isMore_46 (by decide) ?_
      exact kk_pret_z hx hb hr hlocks (by decide) (kr_w (kr_c 1 1 rfl) rfl) dX11_isMore_50
    · have i_6 : v_5.toInt ≤ 24 := (ki_nlt c_6)
      have b_8 : kr (-2147483648) 24 v_5 := kr_le_l (kr_all v_5) (kr_c 24 24 rfl) i_6 rfl
      refine lv_iload_n hx hb dX11_isMore_25 rfl (lv_at hl 0 rfl) ?_
      refine lv_if_le (tgt := 49) hx hb dX11_isMore_26 (by decide) (fun c_9 => ?_) (fun c_9 => ?_)
      · have i_9 : v_5.toInt ≤ 0 := (ki_le c_9)
        have b_10 : kr (-2147483648) 0 v_5 := kr_le_l b_8 (kr_c 0 0 rfl) i_9 rfl
        refine lv_iconst (v := 0) hx hb dX11_isMore_49 (by decide) ?_
        exact kk_pret_z hx hb hr hlocks (by decide) (kr_w (kr_c 0 0 rfl) rfl) dX11_isMore_50
      · have i_9 : 0 < v_5.toInt := (ki_nle c_9)
        have b_11 : kr 1 24 v_5 := kr_lt_r (kr_c 0 0 rfl) b_8 i_9 rfl
        refine lv_iload_n hx hb dX11_isMore_29 rfl (lv_at hl 2 rfl) ?_
        refine kk_pl (kk_runS (w1 := []) (As := [.int p1]) (rest := []) hx hb hml hown hts hE (c_X11_wholeOf l D cB cI cJ cD p1 s.heap.size) m_X11_wholeOf w_1518 ⟨rfl, rfl, Nat.le_of_ble_eq_true rfl, Nat.le_of_ble_eq_true rfl⟩ (hP.sub [] rfl) (hD.sub [] (by decide +kernel) rfl) rfl hl.1 (Nat.le_of_ble_eq_true rfl) dX11_isMore_30 ⟨Nat.le_of_ble_eq_true rfl, Nat.le_of_ble_eq_true rfl⟩) (fun r_12 p_12 => ?_)
        refine lv_iload_n hx hb dX11_isMore_33 rfl (lv_at hl 0 rfl) ?_
        refine lv_lshr hx hb dX11_isMore_34 rfl ?_
        refine lv_topl (fun v_13 e_13 => ?_)
        refine lv_iload_n hx hb dX11_isMore_35 rfl (lv_at hl 0 rfl) ?_
        refine lv_lshl hx hb dX11_isMore_36 rfl ?_
        refine lv_topl (fun v_14 e_14 => ?_)
        refine lv_iload_n hx hb dX11_isMore_37 rfl (lv_at hl 2 rfl) ?_
        refine kk_pl (kk_runS (w1 := []) (As := [.int p1]) (rest := [.long v_14]) hx hb hml hown hts hE (c_X11_wholeOf l D cB cI cJ cD p1 s.heap.size) m_X11_wholeOf w_1518 ⟨rfl, rfl, Nat.le_of_ble_eq_true rfl, Nat.le_of_ble_eq_true rfl⟩ (hP.sub [] rfl) (hD.sub [] (by decide +kernel) rfl) rfl hl.1 (Nat.le_of_ble_eq_true rfl) dX11_isMore_38 ⟨Nat.le_of_ble_eq_true rfl, Nat.le_of_ble_eq_true rfl⟩) (fun r_15 p_15 => ?_)
        refine W.lcmp hx hb dX11_isMore_41 ?_
        refine lv_topi (fun v_16 e_16 => ?_)
        refine lv_if_eq (tgt := 49) hx hb dX11_isMore_42 (by decide) (fun c_17 => ?_) (fun c_17 => ?_)
        · have b_18 : kr 0 0 v_16 := kr_eq_l (kr_all v_16) (kr_c 0 0 rfl) c_17 rfl
          refine lv_iconst (v := 0) hx hb dX11_isMore_49 (by decide) ?_
          exact kk_pret_z hx hb hr hlocks (by decide) (kr_w (kr_c 0 0 rfl) rfl) dX11_isMore_50
        · refine lv_iconst (v := 1) hx hb dX11_isMore_45 (by decide) ?_
          refine lv_goto (tgt := 50) hx hb dX11_isMore_46 (by decide) ?_
          exact kk_pret_z hx hb hr hlocks (by decide) (kr_w (kr_c 1 1 rfl) rfl) dX11_isMore_50
  · have b_19 : kr 0 0 p1 := kr_eq_l (kr_all p1) (kr_c 0 0 rfl) c_1 rfl
    refine lv_iconst (v := 0) hx hb dX11_isMore_4 (by decide) ?_
    exact kk_pret_z hx hb hr hlocks (by decide) (kr_w (kr_c 0 0 rfl) rfl) dX11_isMore_5
set_option maxHeartbeats 4000000 in
set_option maxRecDepth 100000 in
theorem c_X11_added_f (l : Launch) (D : va_G) (cB cI cJ cD : ClassId) (p0 : Int32) (p1 : Int32) (sz : Nat) (b_p0 : kr 0 2147483647 p0) (b_p1 : kr 0 2147483647 p1) : Met l yX11_added (kk_W yX11_added cX11_added 6 (some .int)) ({ frames := 2, cells := 0, slots := 0, locals := 42 }) (va_Pc [.int p0, .int p1] (kk_pre D cB cI cJ cD [] sz)) (vp_Si (fun r => kr 0 2147483647 r)) 0 0 (fun _ => False) := by
  refine kk_pstart (y := yX11_added) (maxL := 6) (av := [.int p0, .int p1]) (by decide) (Nat.le_of_ble_eq_true rfl) ?_
  intro p e s m below meth c ls hx hb hr hml hown hts hE hlocks hsz hP hD hl
  have hown : s.vm.findClass RX11 = some m.cls := hown
  have hl : lv_has ls 6 [(0, .int p0), (1, .int p1)] := hl
  generalize hQQ : MQ below _ _ s _ _ _ = QQ
  have J_62 : ∀ (x62_l_2 : Int32) (x62_s_1 : Int64) (x62_s_0 : Int64) (ls : Array Slot), kr 1 2147483647 x62_l_2 → kl 0 1 x62_s_1 → kl 0 72057589742960640 x62_s_0 → lv_has ls 6 [(2, .int x62_l_2)] → W p l e ({ frames := 2, cells := 0, slots := 0, locals := 42 }) s m ([.int p0, .int p1] : List Value).toArray below meth c s.heap [] 0 0 QQ (F0 m 62 ls [.long x62_s_1, .long x62_s_0]) := by
    intro x62_l_2 x62_s_1 x62_s_0 ls bx62_l_2 bx62_s_1 bx62_s_0 hl
    refine lv_ladd hx hb dX11_added_62 ?_
    refine lv_topl (fun v_1 e_1 => ?_)
    have t_1 : v_1.toInt = x62_s_0.toInt + x62_s_1.toInt := kt_ladd e_1 bx62_s_0 bx62_s_1 rfl
    have b_1 : kl 0 72057589742960641 v_1 := kl_add (x := x62_s_0) (y := x62_s_1) t_1 bx62_s_0 bx62_s_1 rfl
    refine lv_iload_n hx hb dX11_added_63 rfl (lv_at hl 0 rfl) ?_
    refine kk_pi (kk_runS (w1 := []) (As := [.int x62_l_2]) (rest := [.long v_1]) hx hb hml hown hts hE (c_X11_powerOf_f l D cB cI cJ cD x62_l_2 s.heap.size (kr_w bx62_l_2 rfl)) m_X11_powerOf w_1527 ⟨rfl, rfl, Nat.le_of_ble_eq_true rfl, Nat.le_of_ble_eq_true rfl⟩ (hP.sub [] rfl) (hD.sub [] (by decide +kernel) rfl) rfl hl.1 (Nat.le_of_ble_eq_true rfl) dX11_added_64 ⟨Nat.le_of_ble_eq_true rfl, Nat.le_of_ble_eq_true rfl⟩) (fun r_2 p_2 => ?_)
    have b_2 : kr (-149) 105 r_2 := p_2.1
    have g_3 : r_2.toInt = (if x62_l_2.toInt < 8388608 then -149 else x62_l_2.toInt / 8388608 - 150) := p_2.2
    refine lv_bipush (v := 31) hx hb dX11_added_67 (by decide) ?_
    refine lv_isub hx hb dX11_added_69 ?_
    refine lv_topi (fun v_4 e_4 => ?_)
    have t_4 : v_4.toInt = r_2.toInt - 31 := kt_sub e_4 b_2 (kr_c 31 31 rfl) rfl
    have b_4 : kr (-180) 74 v_4 := kr_sub (x := r_2) (y := 31) t_4 b_2 (kr_c 31 31 rfl) rfl
    refine kk_pi (kk_runS (w1 := []) (As := [.long v_1, .int v_4]) (rest := []) hx hb hml hown hts hE (c_X11_packedFloat_f l D cB cI cJ cD v_1 v_4 s.heap.size (kl_w b_1 rfl) (kr_w b_4 rfl)) m_X11_packedFloat w_1509 ⟨rfl, rfl, Nat.le_of_ble_eq_true rfl, Nat.le_of_ble_eq_true rfl⟩ (hP.sub [] rfl) (hD.sub [] (by decide +kernel) rfl) rfl hl.1 (Nat.le_of_ble_eq_true rfl) dX11_added_70 ⟨Nat.le_of_ble_eq_true rfl, Nat.le_of_ble_eq_true rfl⟩) (fun r_5 p_5 => ?_)
    have b_5 : kr 0 2147483647 r_5 := p_5
    subst hQQ
    exact kk_pret_i hx hb hr hlocks b_5 dX11_added_73
  have J_21 : ∀ (x21_l_2 : Int32) (x21_s_0 : Int32) (ls : Array Slot), kr 0 2147483647 x21_l_2 → kr 0 2147483647 x21_s_0 → p0.toInt ≤ x21_l_2.toInt → p1.toInt ≤ x21_l_2.toInt → x21_s_0.toInt ≤ x21_l_2.toInt → lv_has ls 6 [(2, .int x21_l_2)] → W p l e ({ frames := 2, cells := 0, slots := 0, locals := 42 }) s m ([.int p0, .int p1] : List Value).toArray below meth c s.heap [] 0 0 QQ (F0 m 21 ls [.int x21_s_0]) := by
    intro x21_l_2 x21_s_0 ls bx21_l_2 bx21_s_0 r21_0 r21_1 r21_2 hl
    refine lv_istore_n (lv' := [(3, .int x21_s_0), (2, .int x21_l_2)]) hx hb dX11_added_21 rfl hl (by decide) rfl (fun ls hl => ?_)
    refine lv_iload_n hx hb dX11_added_22 rfl (lv_at hl 1 rfl) ?_
    refine lv_if_ne (tgt := 28) hx hb dX11_added_23 (by decide) (fun c_6 => ?_) (fun c_6 => ?_)
    · have b_7 : kr 1 2147483647 x21_l_2 := kr_ne_lo bx21_l_2 c_6 rfl
      refine lv_iload_n hx hb dX11_added_28 rfl (lv_at hl 1 rfl) ?_
      refine kk_pl (kk_runS (w1 := []) (As := [.int x21_l_2]) (rest := []) hx hb hml hown hts hE (c_X11_wholeOf_f l D cB cI cJ cD x21_l_2 s.heap.size (kr_w b_7 rfl)) m_X11_wholeOf w_1518 ⟨rfl, rfl, Nat.le_of_ble_eq_true rfl, Nat.le_of_ble_eq_true rfl⟩ (hP.sub [] rfl) (hD.sub [] (by decide +kernel) rfl) rfl hl.1 (Nat.le_of_ble_eq_true rfl) dX11_added_29 ⟨Nat.le_of_ble_eq_true rfl, Nat.le_of_ble_eq_true rfl⟩) (fun r_8 p_8 => ?_)
      have b_8 : kl 0 16777215 r_8 := p_8.1
      have g_9 : (1 ≤ x21_l_2.toInt → 1 ≤ r_8.toInt) := p_8.2
      refine lv_bipush (v := 30) hx hb dX11_added_32 (by decide) ?_
      refine lv_lshl hx hb dX11_added_34 rfl ?_
      refine lv_topl (fun v_10 e_10 => ?_)
      have t_10 : v_10.toInt = r_8.toInt * 2 ^ (Int32.toNatClampNeg 30) := kt_lshl e_10 b_8 (kr_c 30 30 rfl) rfl
      have b_10 : kl 0 18014397435740160 v_10 := kl_shl t_10 b_8 (kr_c 30 30 rfl) rfl
      refine lv_iload_n hx hb dX11_added_35 rfl (lv_at hl 1 rfl) ?_
      refine lv_iload_n hx hb dX11_added_36 rfl (lv_at hl 0 rfl) ?_
      refine kk_pl (kk_runS (w1 := []) (As := [.int x21_l_2, .int x21_s_0]) (rest := [.long v_10]) hx hb hml hown hts hE (c_X11_besides_f l D cB cI cJ cD x21_l_2 x21_s_0 s.heap.size (kr_w b_7 rfl) bx21_s_0 (by show x21_s_0.toInt ≤ x21_l_2.toInt; have q0 := b_10.1; have q0' := b_10.2; have q1 := b_7.1; have q1' := b_7.2; have q2 := bx21_s_0.1; have q2' := bx21_s_0.2; omega)) m_X11_besides w_1576 ⟨rfl, rfl, Nat.le_of_ble_eq_true rfl, Nat.le_of_ble_eq_true rfl⟩ (hP.sub [] rfl) (hD.sub [] (by decide +kernel) rfl) rfl hl.1 (Nat.le_of_ble_eq_true rfl) dX11_added_37 ⟨Nat.le_of_ble_eq_true rfl, Nat.le_of_ble_eq_true rfl⟩) (fun r_11 p_11 => ?_)
      have b_11 : kl 0 18014397435740160 r_11 := p_11
      refine lv_ladd hx hb dX11_added_40 ?_
      refine lv_topl (fun v_12 e_12 => ?_)
      have t_12 : v_12.toInt = v_10.toInt + r_11.toInt := kt_ladd e_12 b_10 b_11 rfl
      have b_12 : kl 0 36028794871480320 v_12 := kl_add (x := v_10) (y := r_11) t_12 b_10 b_11 rfl
      refine lv_lstore (lv' := [(4, .long v_12), (3, .int x21_s_0), (2, .int x21_l_2)]) hx hb dX11_added_41 hl (by decide) rfl (fun ls hl => ?_)
      refine lv_ldc2 (v := 2) hx hb hown (hts _ w_1526) dX11_added_43 ?_
      refine lv_lload hx hb dX11_added_46 (lv_at hl 0 rfl) ?_
      refine lv_lmul hx hb dX11_added_48 ?_
      refine lv_topl (fun v_13 e_13 => ?_)
      have t_13 : v_13.toInt = 2 * v_12.toInt := kt_lcmul e_13 b_12 rfl
      have b_13 : kl 0 72057589742960640 v_13 := kl_cmul t_13 b_12 rfl
      refine lv_iload_n hx hb dX11_added_49 rfl (lv_at hl 2 rfl) ?_
      refine lv_iload_n hx hb dX11_added_50 rfl (lv_at hl 1 rfl) ?_
      refine kk_pi (kk_runS (w1 := []) (As := [.int x21_l_2, .int x21_s_0]) (rest := [.long v_13]) hx hb hml hown hts hE (c_X11_isMore l D cB cI cJ cD x21_l_2 x21_s_0 s.heap.size) m_X11_isMore w_1579 ⟨rfl, rfl, Nat.le_of_ble_eq_true rfl, Nat.le_of_ble_eq_true rfl⟩ (hP.sub [] rfl) (hD.sub [] (by decide +kernel) rfl) rfl hl.1 (Nat.le_of_ble_eq_true rfl) dX11_added_51 ⟨Nat.le_of_ble_eq_true rfl, Nat.le_of_ble_eq_true rfl⟩) (fun r_14 p_14 => ?_)
      have b_14 : kr 0 1 r_14 := p_14
      refine lv_if_eq (tgt := 61) hx hb dX11_added_54 (by decide) (fun c_15 => ?_) (fun c_15 => ?_)
      · have b_16 : kr 0 0 r_14 := kr_eq_l b_14 (kr_c 0 0 rfl) c_15 rfl
        refine lv_lconst (v := 0) hx hb dX11_added_61 (by decide) ?_
        exact J_62 x21_l_2 0 v_13 _ b_7 (kl_w (kl_c 0 0 rfl) rfl) b_13 (lv_sub hl [2] rfl)
      · have b_17 : kr 1 1 r_14 := kr_ne_lo b_14 c_15 rfl
        refine lv_lconst (v := 1) hx hb dX11_added_57 (by decide) ?_
        refine lv_goto (tgt := 62) hx hb dX11_added_58 (by decide) ?_
        exact J_62 x21_l_2 1 v_13 _ b_7 (kl_w (kl_c 1 1 rfl) rfl) b_13 (lv_sub hl [2] rfl)
    · have b_18 : kr 0 0 x21_l_2 := kr_eq_l bx21_l_2 (kr_c 0 0 rfl) c_6 rfl
      refine lv_iconst (v := 0) hx hb dX11_added_26 (by decide) ?_
      subst hQQ
      exact kk_pret_i hx hb hr hlocks (kr_w (kr_c 0 0 rfl) rfl) dX11_added_27
  have J_10 : ∀ (x10_s_0 : Int32) (ls : Array Slot), kr 0 2147483647 x10_s_0 → p0.toInt ≤ x10_s_0.toInt → p1.toInt ≤ x10_s_0.toInt → lv_has ls 6 [(0, .int p0), (1, .int p1)] → W p l e ({ frames := 2, cells := 0, slots := 0, locals := 42 }) s m ([.int p0, .int p1] : List Value).toArray below meth c s.heap [] 0 0 QQ (F0 m 10 ls [.int x10_s_0]) := by
    intro x10_s_0 ls bx10_s_0 r10_0 r10_1 hl
    refine lv_istore_n (lv' := [(2, .int x10_s_0), (0, .int p0), (1, .int p1)]) hx hb dX11_added_10 rfl hl (by decide) rfl (fun ls hl => ?_)
    refine lv_iload_n hx hb dX11_added_11 rfl (lv_at hl 1 rfl) ?_
    refine lv_iload_n hx hb dX11_added_12 rfl (lv_at hl 2 rfl) ?_
    refine lv_icmp_le (tgt := 20) hx hb dX11_added_13 (by decide) (fun c_19 => ?_) (fun c_19 => ?_)
    · have i_19 : p0.toInt ≤ p1.toInt := (ki_le c_19)
      refine lv_iload_n hx hb dX11_added_20 rfl (lv_at hl 1 rfl) ?_
      exact J_21 x10_s_0 p0 _ bx10_s_0 b_p0 (by show p0.toInt ≤ x10_s_0.toInt; have q0 := b_p0.1; have q0' := b_p0.2; have q1 := b_p1.1; have q1' := b_p1.2; have q2 := bx10_s_0.1; have q2' := bx10_s_0.2; omega) (by show p1.toInt ≤ x10_s_0.toInt; have q0 := b_p0.1; have q0' := b_p0.2; have q1 := b_p1.1; have q1' := b_p1.2; have q2 := bx10_s_0.1; have q2' := bx10_s_0.2; omega) (by show p0.toInt ≤ x10_s_0.toInt; have q0 := b_p0.1; have q0' := b_p0.2; have q1 := b_p1.1; have q1' := b_p1.2; have q2 := bx10_s_0.1; have q2' := bx10_s_0.2; omega) (lv_sub hl [0] rfl)
    · have i_19 : p1.toInt < p0.toInt := (ki_nle c_19)
      have b_20 : kr 0 2147483646 p1 := kr_lt_l b_p1 b_p0 i_19 rfl
      have b_21 : kr 1 2147483647 p0 := kr_lt_r b_p1 b_p0 i_19 rfl
      refine lv_iload_n hx hb dX11_added_16 rfl (lv_at hl 2 rfl) ?_
      refine lv_goto (tgt := 21) hx hb dX11_added_17 (by decide) ?_
      exact J_21 x10_s_0 p1 _ bx10_s_0 (kr_w b_20 rfl) (by show p0.toInt ≤ x10_s_0.toInt; have q0 := b_20.1; have q0' := b_20.2; have q1 := b_21.1; have q1' := b_21.2; have q2 := bx10_s_0.1; have q2' := bx10_s_0.2; omega) (by show p1.toInt ≤ x10_s_0.toInt; have q0 := b_20.1; have q0' := b_20.2; have q1 := b_21.1; have q1' := b_21.2; have q2 := bx10_s_0.1; have q2' := bx10_s_0.2; omega) (by show p1.toInt ≤ x10_s_0.toInt; have q0 := b_20.1; have q0' := b_20.2; have q1 := b_21.1; have q1' := b_21.2; have q2 := bx10_s_0.1; have q2' := bx10_s_0.2; omega) (lv_sub hl [0] rfl)
  refine lv_iload_n hx hb dX11_added_0 rfl (lv_at hl 0 rfl) ?_
  refine lv_iload_n hx hb dX11_added_1 rfl (lv_at hl 1 rfl) ?_
  refine lv_icmp_le (tgt := 9) hx hb dX11_added_2 (by decide) (fun c_22 => ?_) (fun c_22 => ?_)
  · have i_22 : p0.toInt ≤ p1.toInt := (ki_le c_22)
    refine lv_iload_n hx hb dX11_added_9 rfl (lv_at hl 1 rfl) ?_
    exact J_10 p1 _ b_p1 (by show p0.toInt ≤ p1.toInt; have q0 := b_p0.1; have q0' := b_p0.2; have q1 := b_p1.1; have q1' := b_p1.2; omega) (by show p1.toInt ≤ p1.toInt; have q0 := b_p0.1; have q0' := b_p0.2; have q1 := b_p1.1; have q1' := b_p1.2; omega) (lv_sub hl [0, 1] rfl)
  · have i_22 : p1.toInt < p0.toInt := (ki_nle c_22)
    have b_23 : kr 0 2147483646 p1 := kr_lt_l b_p1 b_p0 i_22 rfl
    have b_24 : kr 1 2147483647 p0 := kr_lt_r b_p1 b_p0 i_22 rfl
    refine lv_iload_n hx hb dX11_added_5 rfl (lv_at hl 0 rfl) ?_
    refine lv_goto (tgt := 10) hx hb dX11_added_6 (by decide) ?_
    exact J_10 p0 _ (kr_w b_24 rfl) (by show p0.toInt ≤ p0.toInt; have q0 := b_23.1; have q0' := b_23.2; have q1 := b_24.1; have q1' := b_24.2; omega) (by show p1.toInt ≤ p0.toInt; have q0 := b_23.1; have q0' := b_23.2; have q1 := b_24.1; have q1' := b_24.2; omega) (lv_sub hl [0, 1] rfl)
set_option maxHeartbeats 4000000 in
set_option maxRecDepth 100000 in
theorem c_X11_shortBy_f (l : Launch) (D : va_G) (cB cI cJ cD : ClassId) (p0 : Int32) (sz : Nat) (b_p0 : kr 1 2147483647 p0) : Met l yX11_shortBy (kk_W yX11_shortBy cX11_shortBy 2 (some .int)) ({ frames := 1, cells := 0, slots := 0, locals := 20 }) (va_Pc [.int p0] (kk_pre D cB cI cJ cD [] sz)) (vp_Si (fun r => kr 0 23 r)) 0 0 (fun _ => False) := by
  refine kk_pstart (y := yX11_shortBy) (maxL := 2) (av := [.int p0]) (by decide) (Nat.le_of_ble_eq_true rfl) ?_
  intro p e s m below meth c ls hx hb hr hml hown hts hE hlocks hsz hP hD hl
  have hown : s.vm.findClass RX11 = some m.cls := hown
  have hl : lv_has ls 2 [(0, .int p0)] := hl
  generalize hQQ : MQ below _ _ s _ _ _ = QQ
  have J_2 : ∀ (n : Nat) (x2_l_1 : Int32) (ls : Array Slot), (23 - x2_l_1.toInt).toNat < n → kr 0 23 x2_l_1 → lv_has ls 2 [(1, .int x2_l_1), (0, .int p0)] → W p l e ({ frames := 1, cells := 0, slots := 0, locals := 20 }) s m ([.int p0] : List Value).toArray below meth c s.heap [] 0 0 QQ (F0 m 2 ls []) := by
    intro n
    induction n with
    | zero =>
      intro x2_l_1 ls hn_2 bx2_l_1 hl
      exact absurd hn_2 (Nat.not_lt_zero _)
    | succ n ih_2 =>
      intro x2_l_1 ls hn_2 bx2_l_1 hl
      refine lv_iload_n hx hb dX11_shortBy_2 rfl (lv_at hl 1 rfl) ?_
      refine kk_pl (kk_runS (w1 := []) (As := [.int p0]) (rest := []) hx hb hml hown hts hE (c_X11_wholeOf_f l D cB cI cJ cD p0 s.heap.size (kr_w b_p0 rfl)) m_X11_wholeOf w_1518 ⟨rfl, rfl, Nat.le_of_ble_eq_true rfl, Nat.le_of_ble_eq_true rfl⟩ (hP.sub [] rfl) (hD.sub [] (by decide +kernel) rfl) rfl hl.1 (Nat.le_of_ble_eq_true rfl) dX11_shortBy_3 ⟨Nat.le_of_ble_eq_true rfl, Nat.le_of_ble_eq_true rfl⟩) (fun r_1 p_1 => ?_)
      have b_1 : kl 0 16777215 r_1 := p_1.1
      have g_2 : (1 ≤ p0.toInt → 1 ≤ r_1.toInt) := p_1.2
      have b_3 : kl 1 16777215 r_1 := ⟨g_2 b_p0.1, b_1.2⟩
      refine lv_iload_n hx hb dX11_shortBy_6 rfl (lv_at hl 0 rfl) ?_
      refine lv_lshl hx hb dX11_shortBy_7 rfl ?_
      refine lv_topl (fun v_4 e_4 => ?_)
      have t_4 : v_4.toInt = r_1.toInt * 2 ^ (Int32.toNatClampNeg x2_l_1) := kt_lshl e_4 b_3 bx2_l_1 rfl
      have b_4 : kl 1 140737479966720 v_4 := kl_shl t_4 b_3 bx2_l_1 rfl
      refine lv_ldc2 (v := 8388608) hx hb hown (hts _ w_1513) dX11_shortBy_8 ?_
      refine W.lcmp hx hb dX11_shortBy_11 ?_
      refine lv_topi (fun v_5 e_5 => ?_)
      refine lv_if_ge (tgt := 21) hx hb dX11_shortBy_12 (by decide) (fun c_6 => ?_) (fun c_6 => ?_)
      · have l_6 : 8388608 ≤ v_4.toInt := klc_ge e_5 (ki_le c_6)
        have b_7 : kl 8388608 140737479966720 v_4 := (by have q1 := b_4.1; have q2 := b_4.2; exact ⟨by omega, by omega⟩)
        have i_6 : 0 ≤ v_5.toInt := (ki_le c_6)
        have b_8 : kr 0 2147483647 v_5 := kr_le_r (kr_c 0 0 rfl) (kr_all v_5) i_6 rfl
        refine lv_iload_n hx hb dX11_shortBy_21 rfl (lv_at hl 0 rfl) ?_
        subst hQQ
        exact kk_pret_i hx hb hr hlocks bx2_l_1 dX11_shortBy_22
      · have l_6 : v_4.toInt < 8388608 := klc_lt e_5 (ki_nle c_6)
        have b_9 : kl 1 8388607 v_4 := (by have q1 := b_4.1; have q2 := b_4.2; exact ⟨by omega, by omega⟩)
        have i_6 : v_5.toInt < 0 := (ki_nle c_6)
        have b_10 : kr (-2147483648) (-1) v_5 := kr_lt_l (kr_all v_5) (kr_c 0 0 rfl) i_6 rfl
        have b_11 : kr 0 22 x2_l_1 := ksb_22 t_4 b_3 l_6 bx2_l_1
        obtain ⟨v_12, e_12⟩ : ∃ y : Int32, y = x2_l_1 + 1 := ⟨_, rfl⟩
        have t_12 : v_12.toInt = x2_l_1.toInt + 1 := kt_add e_12 b_11 (kr_c 1 1 rfl) rfl
        have b_12 : kr 1 23 v_12 := kr_add (x := x2_l_1) (y := 1) t_12 b_11 (kr_c 1 1 rfl) rfl
        refine lv_iinc (v := v_12) (lv' := [(1, .int v_12), (0, .int p0)]) hx hb dX11_shortBy_15 hl (k := 0) rfl (by rw [e_12]; rfl) (by decide) rfl (fun ls hl => ?_)
        refine lv_goto (tgt := 2) hx hb dX11_shortBy_18 (by decide) ?_
        exact ih_2 v_12 _ (km_up hn_2 t_12 b_12 rfl) (kr_w b_12 rfl) (lv_sub hl [0, 1] rfl)
  refine lv_iconst (v := 0) hx hb dX11_shortBy_0 (by decide) ?_
  refine lv_istore_n (lv' := [(1, .int 0), (0, .int p0)]) hx hb dX11_shortBy_1 rfl hl (by decide) rfl (fun ls hl => ?_)
  exact J_2 _ 0 _ (Nat.lt_succ_self _) (kr_w (kr_c 0 0 rfl) rfl) (lv_sub hl [0, 1] rfl)
set_option maxHeartbeats 4000000 in
set_option maxRecDepth 100000 in
theorem c_X11_packedFloat (l : Launch) (D : va_G) (cB cI cJ cD : ClassId) (p0 : Int64) (p1 : Int32) (sz : Nat) : Met l yX11_packedFloat (kk_W yX11_packedFloat cX11_packedFloat 11 (some .int)) ({ frames := 0, cells := 0, slots := 0, locals := 0 }) (va_Pc [.long p0, .int p1] (kk_pre D cB cI cJ cD [] sz)) (vp_Si (fun r => True)) 0 0 (fun _ => False) := by
  refine kk_pstart (y := yX11_packedFloat) (maxL := 11) (av := [.long p0, .int p1]) (by decide) (Nat.le_of_ble_eq_true rfl) ?_
  intro p e s m below meth c ls hx hb hr hml hown hts hE hlocks hsz hP hD hl
  have hown : s.vm.findClass RX11 = some m.cls := hown
  have hl : lv_has ls 11 [(0, .long p0), (2, .int p1)] := hl
  generalize hQQ : MQ below _ _ s _ _ _ = QQ
  have J_151 : ∀ (x151_l_4 : Int64) (x151_l_6 : Int32) (ls : Array Slot), kr (-2147483648) 63 x151_l_6 → lv_has ls 11 [(4, .long x151_l_4), (6, .int x151_l_6), (2, .int p1)] → W p l e ({ frames := 0, cells := 0, slots := 0, locals := 0 }) s m ([.long p0, .int p1] : List Value).toArray below meth c s.heap [] 0 0 QQ (F0 m 151 ls []) := by
    intro x151_l_4 x151_l_6 ls bx151_l_6 hl
    refine lv_lload hx hb dX11_packedFloat_151 (lv_at hl 0 rfl) ?_
    refine lv_ldc2 (v := 8388608) hx hb hown (hts _ w_1513) dX11_packedFloat_153 ?_
    refine W.lcmp hx hb dX11_packedFloat_156 ?_
    refine lv_topi (fun v_1 e_1 => ?_)
    refine lv_if_ge (tgt := 164) hx hb dX11_packedFloat_157 (by decide) (fun c_2 => ?_) (fun c_2 => ?_)
    · have i_2 : 0 ≤ v_1.toInt := (ki_le c_2)
      have b_3 : kr 0 2147483647 v_1 := kr_le_r (kr_c 0 0 rfl) (kr_all v_1) i_2 rfl
      refine lv_iload_n hx hb dX11_packedFloat_164 rfl (lv_at hl 2 rfl) ?_
      refine lv_iload hx hb dX11_packedFloat_165 (lv_at hl 1 rfl) ?_
      refine lv_iadd hx hb dX11_packedFloat_167 ?_
      refine lv_topi (fun v_4 e_4 => ?_)
      refine lv_bipush (v := 104) hx hb dX11_packedFloat_168 (by decide) ?_
      refine lv_icmp_le (tgt := 178) hx hb dX11_packedFloat_170 (by decide) (fun c_5 => ?_) (fun c_5 => ?_)
      · have i_5 : v_4.toInt ≤ 104 := (ki_le c_5)
        have b_6 : kr (-2147483648) 104 v_4 := kr_le_l (kr_all v_4) (kr_c 104 104 rfl) i_5 rfl
        refine lv_iload_n hx hb dX11_packedFloat_178 rfl (lv_at hl 2 rfl) ?_
        refine lv_iload hx hb dX11_packedFloat_179 (lv_at hl 1 rfl) ?_
        refine lv_iadd hx hb dX11_packedFloat_181 ?_
        refine lv_topi (fun v_7 e_7 => ?_)
        refine lv_sipush (v := 150) hx hb dX11_packedFloat_182 (by decide) ?_
        refine lv_iadd hx hb dX11_packedFloat_185 ?_
        refine lv_topi (fun v_8 e_8 => ?_)
        refine lv_bipush (v := 23) hx hb dX11_packedFloat_186 (by decide) ?_
        refine lv_ishl hx hb dX11_packedFloat_188 ?_
        refine lv_topi (fun v_9 e_9 => ?_)
        refine lv_lload hx hb dX11_packedFloat_189 (lv_at hl 0 rfl) ?_
        refine lv_ldc2 (v := 8388608) hx hb hown (hts _ w_1513) dX11_packedFloat_191 ?_
        refine lv_lsub hx hb dX11_packedFloat_194 ?_
        refine lv_topl (fun v_10 e_10 => ?_)
        refine lv_l2i hx hb dX11_packedFloat_195 rfl ?_
        refine lv_topi (fun v_11 e_11 => ?_)
        refine lv_ior hx hb dX11_packedFloat_196 ?_
        refine lv_topi (fun v_12 e_12 => ?_)
        subst hQQ
        exact kk_pret_i hx hb hr hlocks trivial dX11_packedFloat_197
      · have i_5 : 104 < v_4.toInt := (ki_nle c_5)
        have b_13 : kr 105 2147483647 v_4 := kr_lt_r (kr_c 104 104 rfl) (kr_all v_4) i_5 rfl
        refine lv_ldc (v := 2139095040) hx hb hown (hts _ w_1514) dX11_packedFloat_173 ?_
        refine lv_goto (tgt := 197) hx hb dX11_packedFloat_175 (by decide) ?_
        subst hQQ
        exact kk_pret_i hx hb hr hlocks trivial dX11_packedFloat_197
    · have i_2 : v_1.toInt < 0 := (ki_nle c_2)
      have b_14 : kr (-2147483648) (-1) v_1 := kr_lt_l (kr_all v_1) (kr_c 0 0 rfl) i_2 rfl
      refine lv_lload hx hb dX11_packedFloat_160 (lv_at hl 0 rfl) ?_
      refine lv_l2i hx hb dX11_packedFloat_162 rfl ?_
      refine lv_topi (fun v_15 e_15 => ?_)
      subst hQQ
      exact kk_pret_i hx hb hr hlocks trivial dX11_packedFloat_163
  have J_134 : ∀ (x134_l_4 : Int64) (x134_l_6 : Int32) (ls : Array Slot), kr 1 62 x134_l_6 → lv_has ls 11 [(4, .long x134_l_4), (6, .int x134_l_6), (2, .int p1)] → W p l e ({ frames := 0, cells := 0, slots := 0, locals := 0 }) s m ([.long p0, .int p1] : List Value).toArray below meth c s.heap [] 0 0 QQ (F0 m 134 ls []) := by
    intro x134_l_4 x134_l_6 ls bx134_l_6 hl
    refine lv_lload hx hb dX11_packedFloat_134 (lv_at hl 0 rfl) ?_
    refine lv_ldc2 (v := 16777216) hx hb hown (hts _ w_1512) dX11_packedFloat_136 ?_
    refine W.lcmp hx hb dX11_packedFloat_139 ?_
    refine lv_topi (fun v_16 e_16 => ?_)
    refine lv_if_ne (tgt := 151) hx hb dX11_packedFloat_140 (by decide) (fun c_17 => ?_) (fun c_17 => ?_)
    · exact J_151 x134_l_4 x134_l_6 _ (kr_w bx134_l_6 rfl) (lv_sub hl [0, 1, 2] rfl)
    · have b_18 : kr 0 0 v_16 := kr_eq_l (kr_all v_16) (kr_c 0 0 rfl) c_17 rfl
      refine lv_ldc2 (v := 8388608) hx hb hown (hts _ w_1513) dX11_packedFloat_143 ?_
      refine lv_lstore (lv' := [(4, .long 8388608), (6, .int x134_l_6), (2, .int p1)]) hx hb dX11_packedFloat_146 hl (by decide) rfl (fun ls hl => ?_)
      obtain ⟨v_19, e_19⟩ : ∃ y : Int32, y = x134_l_6 + 1 := ⟨_, rfl⟩
      have t_19 : v_19.toInt = x134_l_6.toInt + 1 := kt_add e_19 bx134_l_6 (kr_c 1 1 rfl) rfl
      have b_19 : kr 2 63 v_19 := kr_add (x := x134_l_6) (y := 1) t_19 bx134_l_6 (kr_c 1 1 rfl) rfl
      refine lv_iinc (v := v_19) (lv' := [(6, .int v_19), (4, .long 8388608), (2, .int p1)]) hx hb dX11_packedFloat_148 hl (k := 1) rfl (by rw [e_19]; rfl) (by decide) rfl (fun ls hl => ?_)
      exact J_151 8388608 v_19 _ (kr_w b_19 rfl) (lv_sub hl [1, 0, 2] rfl)
  have J_128 : ∀ (x128_l_4 : Int64) (x128_l_6 : Int32) (ls : Array Slot), kr 1 62 x128_l_6 → lv_has ls 11 [(4, .long x128_l_4), (6, .int x128_l_6), (2, .int p1)] → W p l e ({ frames := 0, cells := 0, slots := 0, locals := 0 }) s m ([.long p0, .int p1] : List Value).toArray below meth c s.heap [] 0 0 QQ (F0 m 128 ls []) := by
    intro x128_l_4 x128_l_6 ls bx128_l_6 hl
    refine lv_lload hx hb dX11_packedFloat_128 (lv_at hl 0 rfl) ?_
    refine lv_lconst (v := 1) hx hb dX11_packedFloat_130 (by decide) ?_
    refine lv_ladd hx hb dX11_packedFloat_131 ?_
    refine lv_topl (fun v_20 e_20 => ?_)
    refine lv_lstore (lv' := [(4, .long v_20), (6, .int x128_l_6), (2, .int p1)]) hx hb dX11_packedFloat_132 hl (by decide) rfl (fun ls hl => ?_)
    exact J_134 v_20 x128_l_6 _ bx128_l_6 (lv_sub hl [0, 1, 2] rfl)
  have J_56 : ∀ (x56_l_6 : Int32) (ls : Array Slot), lv_has ls 11 [(6, .int x56_l_6), (0, .long p0), (2, .int p1)] → W p l e ({ frames := 0, cells := 0, slots := 0, locals := 0 }) s m ([.long p0, .int p1] : List Value).toArray below meth c s.heap [] 0 0 QQ (F0 m 56 ls []) := by
    intro x56_l_6 ls hl
    refine lv_iload hx hb dX11_packedFloat_56 (lv_at hl 0 rfl) ?_
    refine lv_bipush (v := 62) hx hb dX11_packedFloat_58 (by decide) ?_
    refine lv_icmp_le (tgt := 65) hx hb dX11_packedFloat_60 (by decide) (fun c_21 => ?_) (fun c_21 => ?_)
    · have i_21 : x56_l_6.toInt ≤ 62 := (ki_le c_21)
      have b_22 : kr (-2147483648) 62 x56_l_6 := kr_le_l (kr_all x56_l_6) (kr_c 62 62 rfl) i_21 rfl
      refine lv_iload hx hb dX11_packedFloat_65 (lv_at hl 0 rfl) ?_
      refine lv_if_gt (tgt := 80) hx hb dX11_packedFloat_67 (by decide) (fun c_23 => ?_) (fun c_23 => ?_)
      · have i_23 : 0 < x56_l_6.toInt := (ki_lt c_23)
        have b_24 : kr 1 62 x56_l_6 := kr_lt_r (kr_c 0 0 rfl) b_22 i_23 rfl
        refine lv_lload_n hx hb dX11_packedFloat_80 rfl (lv_at hl 1 rfl) ?_
        refine lv_iload hx hb dX11_packedFloat_81 (lv_at hl 0 rfl) ?_
        refine lv_lshr hx hb dX11_packedFloat_83 rfl ?_
        refine lv_topl (fun v_25 e_25 => ?_)
        refine lv_lstore (lv' := [(4, .long v_25), (6, .int x56_l_6), (0, .long p0), (2, .int p1)]) hx hb dX11_packedFloat_84 hl (by decide) rfl (fun ls hl => ?_)
        refine lv_lload_n hx hb dX11_packedFloat_86 rfl (lv_at hl 2 rfl) ?_
        refine lv_lload hx hb dX11_packedFloat_87 (lv_at hl 0 rfl) ?_
        refine lv_iload hx hb dX11_packedFloat_89 (lv_at hl 1 rfl) ?_
        refine lv_lshl hx hb dX11_packedFloat_91 rfl ?_
        refine lv_topl (fun v_26 e_26 => ?_)
        refine lv_lsub hx hb dX11_packedFloat_92 ?_
        refine lv_topl (fun v_27 e_27 => ?_)
        refine lv_lstore (lv' := [(7, .long v_27), (4, .long v_25), (6, .int x56_l_6), (0, .long p0), (2, .int p1)]) hx hb dX11_packedFloat_93 hl (by decide) rfl (fun ls hl => ?_)
        refine lv_lconst (v := 1) hx hb dX11_packedFloat_95 (by decide) ?_
        refine lv_iload hx hb dX11_packedFloat_96 (lv_at hl 2 rfl) ?_
        refine lv_iconst (v := 1) hx hb dX11_packedFloat_98 (by decide) ?_
        refine lv_isub hx hb dX11_packedFloat_99 ?_
        refine lv_topi (fun v_28 e_28 => ?_)
        have t_28 : v_28.toInt = x56_l_6.toInt - 1 := kt_sub e_28 b_24 (kr_c 1 1 rfl) rfl
        have b_28 : kr 0 61 v_28 := kr_sub (x := x56_l_6) (y := 1) t_28 b_24 (kr_c 1 1 rfl) rfl
        refine lv_lshl hx hb dX11_packedFloat_100 rfl ?_
        refine lv_topl (fun v_29 e_29 => ?_)
        refine lv_lstore (lv' := [(9, .long v_29), (7, .long v_27), (4, .long v_25), (6, .int x56_l_6), (0, .long p0), (2, .int p1)]) hx hb dX11_packedFloat_101 hl (by decide) rfl (fun ls hl => ?_)
        refine lv_lload hx hb dX11_packedFloat_103 (lv_at hl 1 rfl) ?_
        refine lv_lload hx hb dX11_packedFloat_105 (lv_at hl 0 rfl) ?_
        refine W.lcmp hx hb dX11_packedFloat_107 ?_
        refine lv_topi (fun v_30 e_30 => ?_)
        refine lv_if_gt (tgt := 128) hx hb dX11_packedFloat_108 (by decide) (fun c_31 => ?_) (fun c_31 => ?_)
        · have i_31 : 0 < v_30.toInt := (ki_lt c_31)
          have b_32 : kr 1 2147483647 v_30 := kr_lt_r (kr_c 0 0 rfl) (kr_all v_30) i_31 rfl
          exact J_128 v_25 x56_l_6 _ b_24 (lv_sub hl [2, 3, 5] rfl)
        · have i_31 : v_30.toInt ≤ 0 := (ki_nlt c_31)
          have b_33 : kr (-2147483648) 0 v_30 := kr_le_l (kr_all v_30) (kr_c 0 0 rfl) i_31 rfl
          refine lv_lload hx hb dX11_packedFloat_111 (lv_at hl 1 rfl) ?_
          refine lv_lload hx hb dX11_packedFloat_113 (lv_at hl 0 rfl) ?_
          refine W.lcmp hx hb dX11_packedFloat_115 ?_
          refine lv_topi (fun v_34 e_34 => ?_)
          refine lv_if_ne (tgt := 134) hx hb dX11_packedFloat_116 (by decide) (fun c_35 => ?_) (fun c_35 => ?_)
          · exact J_134 v_25 x56_l_6 _ b_24 (lv_sub hl [2, 3, 5] rfl)
          · have b_36 : kr 0 0 v_34 := kr_eq_l (kr_all v_34) (kr_c 0 0 rfl) c_35 rfl
            refine lv_lload hx hb dX11_packedFloat_119 (lv_at hl 2 rfl) ?_
            refine lv_lconst (v := 1) hx hb dX11_packedFloat_121 (by decide) ?_
            refine lv_land hx hb dX11_packedFloat_122 ?_
            refine lv_topl (fun v_37 e_37 => ?_)
            refine lv_lconst (v := 1) hx hb dX11_packedFloat_123 (by decide) ?_
            refine W.lcmp hx hb dX11_packedFloat_124 ?_
            refine lv_topi (fun v_38 e_38 => ?_)
            refine lv_if_ne (tgt := 134) hx hb dX11_packedFloat_125 (by decide) (fun c_39 => ?_) (fun c_39 => ?_)
            · exact J_134 v_25 x56_l_6 _ b_24 (lv_sub hl [2, 3, 5] rfl)
            · have b_40 : kr 0 0 v_38 := kr_eq_l (kr_all v_38) (kr_c 0 0 rfl) c_39 rfl
              exact J_128 v_25 x56_l_6 _ b_24 (lv_sub hl [2, 3, 5] rfl)
      · have i_23 : x56_l_6.toInt ≤ 0 := (ki_nlt c_23)
        have b_41 : kr (-2147483648) 0 x56_l_6 := kr_le_l b_22 (kr_c 0 0 rfl) i_23 rfl
        refine lv_lload_n hx hb dX11_packedFloat_70 rfl (lv_at hl 1 rfl) ?_
        refine lv_iload hx hb dX11_packedFloat_71 (lv_at hl 0 rfl) ?_
        refine lv_ineg hx hb dX11_packedFloat_73 ?_
        refine lv_topi (fun v_42 e_42 => ?_)
        refine lv_lshl hx hb dX11_packedFloat_74 rfl ?_
        refine lv_topl (fun v_43 e_43 => ?_)
        refine lv_lstore (lv' := [(4, .long v_43), (6, .int x56_l_6), (0, .long p0), (2, .int p1)]) hx hb dX11_packedFloat_75 hl (by decide) rfl (fun ls hl => ?_)
        refine lv_goto (tgt := 151) hx hb dX11_packedFloat_77 (by decide) ?_
        exact J_151 v_43 x56_l_6 _ (kr_w b_41 rfl) (lv_sub hl [0, 1, 3] rfl)
    · have i_21 : 62 < x56_l_6.toInt := (ki_nle c_21)
      have b_44 : kr 63 2147483647 x56_l_6 := kr_lt_r (kr_c 62 62 rfl) (kr_all x56_l_6) i_21 rfl
      refine lv_iconst (v := 0) hx hb dX11_packedFloat_63 (by decide) ?_
      subst hQQ
      exact kk_pret_i hx hb hr hlocks trivial dX11_packedFloat_64
  have J_30 : ∀ (x30_l_3 : Int32) (ls : Array Slot), kr 0 62 x30_l_3 → lv_has ls 11 [(3, .int x30_l_3), (0, .long p0), (2, .int p1)] → W p l e ({ frames := 0, cells := 0, slots := 0, locals := 0 }) s m ([.long p0, .int p1] : List Value).toArray below meth c s.heap [] 0 0 QQ (F0 m 30 ls []) := by
    intro x30_l_3 ls bx30_l_3 hl
    refine lv_lload_n hx hb dX11_packedFloat_30 rfl (lv_at hl 1 rfl) ?_
    refine lv_lstore (lv' := [(4, .long p0), (3, .int x30_l_3), (0, .long p0), (2, .int p1)]) hx hb dX11_packedFloat_31 hl (by decide) rfl (fun ls hl => ?_)
    refine lv_iload_n hx hb dX11_packedFloat_33 rfl (lv_at hl 1 rfl) ?_
    refine lv_bipush (v := 24) hx hb dX11_packedFloat_34 (by decide) ?_
    refine lv_isub hx hb dX11_packedFloat_36 ?_
    refine lv_topi (fun v_45 e_45 => ?_)
    have t_45 : v_45.toInt = x30_l_3.toInt - 24 := kt_sub e_45 bx30_l_3 (kr_c 24 24 rfl) rfl
    have b_45 : kr (-24) 38 v_45 := kr_sub (x := x30_l_3) (y := 24) t_45 bx30_l_3 (kr_c 24 24 rfl) rfl
    refine lv_istore (lv' := [(6, .int v_45), (4, .long p0), (3, .int x30_l_3), (0, .long p0), (2, .int p1)]) hx hb dX11_packedFloat_37 hl (by decide) rfl (fun ls hl => ?_)
    refine lv_iload_n hx hb dX11_packedFloat_39 rfl (lv_at hl 4 rfl) ?_
    refine lv_iload hx hb dX11_packedFloat_40 (lv_at hl 0 rfl) ?_
    refine lv_iadd hx hb dX11_packedFloat_42 ?_
    refine lv_topi (fun v_46 e_46 => ?_)
    refine lv_sipush (v := (-149)) hx hb dX11_packedFloat_43 (by decide) ?_
    refine lv_icmp_ge (tgt := 56) hx hb dX11_packedFloat_46 (by decide) (fun c_47 => ?_) (fun c_47 => ?_)
    · have i_47 : (-149) ≤ v_46.toInt := (ki_le c_47)
      have b_48 : kr (-149) 2147483647 v_46 := kr_le_r (kr_c (-149) (-149) rfl) (kr_all v_46) i_47 rfl
      exact J_56 v_45 _ (lv_sub hl [0, 3, 4] rfl)
    · have i_47 : v_46.toInt < (-149) := (ki_nle c_47)
      have b_49 : kr (-2147483648) (-150) v_46 := kr_lt_l (kr_all v_46) (kr_c (-149) (-149) rfl) i_47 rfl
      refine lv_sipush (v := (-149)) hx hb dX11_packedFloat_49 (by decide) ?_
      refine lv_iload_n hx hb dX11_packedFloat_52 rfl (lv_at hl 4 rfl) ?_
      refine lv_isub hx hb dX11_packedFloat_53 ?_
      refine lv_topi (fun v_50 e_50 => ?_)
      refine lv_istore (lv' := [(6, .int v_50), (4, .long p0), (3, .int x30_l_3), (0, .long p0), (2, .int p1)]) hx hb dX11_packedFloat_54 hl (by decide) rfl (fun ls hl => ?_)
      exact J_56 v_50 _ (lv_sub hl [0, 3, 4] rfl)
  have J_10 : ∀ (n : Nat) (x10_l_3 : Int32) (ls : Array Slot), (62 - x10_l_3.toInt).toNat < n → kr 0 62 x10_l_3 → lv_has ls 11 [(3, .int x10_l_3), (0, .long p0), (2, .int p1)] → W p l e ({ frames := 0, cells := 0, slots := 0, locals := 0 }) s m ([.long p0, .int p1] : List Value).toArray below meth c s.heap [] 0 0 QQ (F0 m 10 ls []) := by
    intro n
    induction n with
    | zero =>
      intro x10_l_3 ls hn_10 bx10_l_3 hl
      exact absurd hn_10 (Nat.not_lt_zero _)
    | succ n ih_10 =>
      intro x10_l_3 ls hn_10 bx10_l_3 hl
      refine lv_iload_n hx hb dX11_packedFloat_10 rfl (lv_at hl 0 rfl) ?_
      refine lv_bipush (v := 62) hx hb dX11_packedFloat_11 (by decide) ?_
      refine lv_icmp_ge (tgt := 30) hx hb dX11_packedFloat_13 (by decide) (fun c_51 => ?_) (fun c_51 => ?_)
      · have i_51 : 62 ≤ x10_l_3.toInt := (ki_le c_51)
        have b_52 : kr 62 62 x10_l_3 := kr_le_r (kr_c 62 62 rfl) bx10_l_3 i_51 rfl
        exact J_30 x10_l_3 _ (kr_w b_52 rfl) (lv_sub hl [0, 1, 2] rfl)
      · have i_51 : x10_l_3.toInt < 62 := (ki_nle c_51)
        have b_53 : kr 0 61 x10_l_3 := kr_lt_l bx10_l_3 (kr_c 62 62 rfl) i_51 rfl
        refine lv_lload_n hx hb dX11_packedFloat_16 rfl (lv_at hl 1 rfl) ?_
        refine lv_iload_n hx hb dX11_packedFloat_17 rfl (lv_at hl 0 rfl) ?_
        refine lv_lshr hx hb dX11_packedFloat_18 rfl ?_
        refine lv_topl (fun v_54 e_54 => ?_)
        refine lv_lconst (v := 0) hx hb dX11_packedFloat_19 (by decide) ?_
        refine W.lcmp hx hb dX11_packedFloat_20 ?_
        refine lv_topi (fun v_55 e_55 => ?_)
        refine lv_if_le (tgt := 30) hx hb dX11_packedFloat_21 (by decide) (fun c_56 => ?_) (fun c_56 => ?_)
        · have i_56 : v_55.toInt ≤ 0 := (ki_le c_56)
          have b_57 : kr (-2147483648) 0 v_55 := kr_le_l (kr_all v_55) (kr_c 0 0 rfl) i_56 rfl
          exact J_30 x10_l_3 _ (kr_w b_53 rfl) (lv_sub hl [0, 1, 2] rfl)
        · have i_56 : 0 < v_55.toInt := (ki_nle c_56)
          have b_58 : kr 1 2147483647 v_55 := kr_lt_r (kr_c 0 0 rfl) (kr_all v_55) i_56 rfl
          obtain ⟨v_59, e_59⟩ : ∃ y : Int32, y = x10_l_3 + 1 := ⟨_, rfl⟩
          have t_59 : v_59.toInt = x10_l_3.toInt + 1 := kt_add e_59 b_53 (kr_c 1 1 rfl) rfl
          have b_59 : kr 1 62 v_59 := kr_add (x := x10_l_3) (y := 1) t_59 b_53 (kr_c 1 1 rfl) rfl
          refine lv_iinc (v := v_59) (lv' := [(3, .int v_59), (0, .long p0), (2, .int p1)]) hx hb dX11_packedFloat_24 hl (k := 0) rfl (by rw [e_59]; rfl) (by decide) rfl (fun ls hl => ?_)
          refine lv_goto (tgt := 10) hx hb dX11_packedFloat_27 (by decide) ?_
          exact ih_10 v_59 _ (km_up hn_10 t_59 b_59 rfl) (kr_w b_59 rfl) (lv_sub hl [0, 1, 2] rfl)
  refine lv_lload_n hx hb dX11_packedFloat_0 rfl (lv_at hl 0 rfl) ?_
  refine lv_lconst (v := 0) hx hb dX11_packedFloat_1 (by decide) ?_
  refine W.lcmp hx hb dX11_packedFloat_2 ?_
  refine lv_topi (fun v_60 e_60 => ?_)
  refine lv_if_ne (tgt := 8) hx hb dX11_packedFloat_3 (by decide) (fun c_61 => ?_) (fun c_61 => ?_)
  · refine lv_iconst (v := 0) hx hb dX11_packedFloat_8 (by decide) ?_
    refine lv_istore_n (lv' := [(3, .int 0), (0, .long p0), (2, .int p1)]) hx hb dX11_packedFloat_9 rfl hl (by decide) rfl (fun ls hl => ?_)
    exact J_10 _ 0 _ (Nat.lt_succ_self _) (kr_w (kr_c 0 0 rfl) rfl) (lv_sub hl [0, 1, 2] rfl)
  · have b_62 : kr 0 0 v_60 := kr_eq_l (kr_all v_60) (kr_c 0 0 rfl) c_61 rfl
    refine lv_iconst (v := 0) hx hb dX11_packedFloat_6 (by decide) ?_
    subst hQQ
    exact kk_pret_i hx hb hr hlocks trivial dX11_packedFloat_7
set_option maxHeartbeats 4000000 in
set_option maxRecDepth 100000 in
theorem c_X11_divided_f (l : Launch) (D : va_G) (cB cI cJ cD : ClassId) (p0 : Int32) (p1 : Int32) (sz : Nat) (b_p0 : kr 0 2147483647 p0) (hab : (p0.toInt = 0 ∨ 1 ≤ p1.toInt)) : Met l yX11_divided (kk_W yX11_divided cX11_divided 10 (some .int)) ({ frames := 2, cells := 0, slots := 0, locals := 41 }) (va_Pc [.int p0, .int p1] (kk_pre D cB cI cJ cD [] sz)) (vp_Si (fun r => True)) 0 0 (fun _ => False) := by
  refine kk_pstart (y := yX11_divided) (maxL := 10) (av := [.int p0, .int p1]) (by decide) (Nat.le_of_ble_eq_true rfl) ?_
  intro p e s m below meth c ls hx hb hr hml hown hts hE hlocks hsz hP hD hl
  have hown : s.vm.findClass RX11 = some m.cls := hown
  have hl : lv_has ls 10 [(0, .int p0), (1, .int p1)] := hl
  generalize hQQ : MQ below _ _ s _ _ _ = QQ
  have J_54 : ∀ (x54_l_6 : Int64) (x54_s_0 : Int64) (ls : Array Slot), kr 1 2147483647 p0 → kr 1 2147483647 p1 → kl 0 1 x54_s_0 → lv_has ls 10 [(6, .long x54_l_6), (0, .int p0), (1, .int p1)] → W p l e ({ frames := 2, cells := 0, slots := 0, locals := 41 }) s m ([.int p0, .int p1] : List Value).toArray below meth c s.heap [] 0 0 QQ (F0 m 54 ls [.long x54_s_0]) := by
    intro x54_l_6 x54_s_0 ls c54_p0 c54_p1 bx54_s_0 hl
    refine lv_lstore (lv' := [(8, .long x54_s_0), (6, .long x54_l_6), (0, .int p0), (1, .int p1)]) hx hb dX11_divided_54 hl (by decide) rfl (fun ls hl => ?_)
    refine lv_ldc2 (v := 2) hx hb hown (hts _ w_1526) dX11_divided_56 ?_
    refine lv_lload hx hb dX11_divided_59 (lv_at hl 1 rfl) ?_
    refine lv_lmul hx hb dX11_divided_61 ?_
    refine lv_topl (fun v_1 e_1 => ?_)
    refine lv_lload hx hb dX11_divided_62 (lv_at hl 0 rfl) ?_
    refine lv_ladd hx hb dX11_divided_64 ?_
    refine lv_topl (fun v_2 e_2 => ?_)
    refine lv_iload_n hx hb dX11_divided_65 rfl (lv_at hl 2 rfl) ?_
    refine kk_pi (kk_runS (w1 := []) (As := [.int p0]) (rest := [.long v_2]) hx hb hml hown hts hE (c_X11_powerOf_f l D cB cI cJ cD p0 s.heap.size (kr_w c54_p0 rfl)) m_X11_powerOf w_1527 ⟨rfl, rfl, Nat.le_of_ble_eq_true rfl, Nat.le_of_ble_eq_true rfl⟩ (hP.sub [] rfl) (hD.sub [] (by decide +kernel) rfl) rfl hl.1 (Nat.le_of_ble_eq_true rfl) dX11_divided_66 ⟨Nat.le_of_ble_eq_true rfl, Nat.le_of_ble_eq_true rfl⟩) (fun r_3 p_3 => ?_)
    have b_3 : kr (-149) 105 r_3 := p_3.1
    have g_4 : r_3.toInt = (if p0.toInt < 8388608 then -149 else p0.toInt / 8388608 - 150) := p_3.2
    refine lv_iload_n hx hb dX11_divided_69 rfl (lv_at hl 2 rfl) ?_
    refine kk_pi (kk_runS (w1 := []) (As := [.int p0]) (rest := [.int r_3, .long v_2]) hx hb hml hown hts hE (c_X11_shortBy_f l D cB cI cJ cD p0 s.heap.size c54_p0) m_X11_shortBy w_1523 ⟨rfl, rfl, Nat.le_of_ble_eq_true rfl, Nat.le_of_ble_eq_true rfl⟩ (hP.sub [] rfl) (hD.sub [] (by decide +kernel) rfl) rfl hl.1 (Nat.le_of_ble_eq_true rfl) dX11_divided_70 ⟨Nat.le_of_ble_eq_true rfl, Nat.le_of_ble_eq_true rfl⟩) (fun r_5 p_5 => ?_)
    have b_5 : kr 0 23 r_5 := p_5
    refine lv_isub hx hb dX11_divided_73 ?_
    refine lv_topi (fun v_6 e_6 => ?_)
    have t_6 : v_6.toInt = r_3.toInt - r_5.toInt := kt_sub e_6 b_3 b_5 rfl
    have b_6 : kr (-172) 105 v_6 := kr_sub (x := r_3) (y := r_5) t_6 b_3 b_5 rfl
    refine lv_iload_n hx hb dX11_divided_74 rfl (lv_at hl 3 rfl) ?_
    refine kk_pi (kk_runS (w1 := []) (As := [.int p1]) (rest := [.int v_6, .long v_2]) hx hb hml hown hts hE (c_X11_powerOf_f l D cB cI cJ cD p1 s.heap.size (kr_w c54_p1 rfl)) m_X11_powerOf w_1527 ⟨rfl, rfl, Nat.le_of_ble_eq_true rfl, Nat.le_of_ble_eq_true rfl⟩ (hP.sub [] rfl) (hD.sub [] (by decide +kernel) rfl) rfl hl.1 (Nat.le_of_ble_eq_true rfl) dX11_divided_75 ⟨Nat.le_of_ble_eq_true rfl, Nat.le_of_ble_eq_true rfl⟩) (fun r_7 p_7 => ?_)
    have b_7 : kr (-149) 105 r_7 := p_7.1
    have g_8 : r_7.toInt = (if p1.toInt < 8388608 then -149 else p1.toInt / 8388608 - 150) := p_7.2
    refine lv_isub hx hb dX11_divided_78 ?_
    refine lv_topi (fun v_9 e_9 => ?_)
    have t_9 : v_9.toInt = v_6.toInt - r_7.toInt := kt_sub e_9 b_6 b_7 rfl
    have b_9 : kr (-277) 254 v_9 := kr_sub (x := v_6) (y := r_7) t_9 b_6 b_7 rfl
    refine lv_iload_n hx hb dX11_divided_79 rfl (lv_at hl 3 rfl) ?_
    refine kk_pi (kk_runS (w1 := []) (As := [.int p1]) (rest := [.int v_9, .long v_2]) hx hb hml hown hts hE (c_X11_shortBy_f l D cB cI cJ cD p1 s.heap.size c54_p1) m_X11_shortBy w_1523 ⟨rfl, rfl, Nat.le_of_ble_eq_true rfl, Nat.le_of_ble_eq_true rfl⟩ (hP.sub [] rfl) (hD.sub [] (by decide +kernel) rfl) rfl hl.1 (Nat.le_of_ble_eq_true rfl) dX11_divided_80 ⟨Nat.le_of_ble_eq_true rfl, Nat.le_of_ble_eq_true rfl⟩) (fun r_10 p_10 => ?_)
    have b_10 : kr 0 23 r_10 := p_10
    refine lv_iadd hx hb dX11_divided_83 ?_
    refine lv_topi (fun v_11 e_11 => ?_)
    have t_11 : v_11.toInt = v_9.toInt + r_10.toInt := kt_add e_11 b_9 b_10 rfl
    have b_11 : kr (-277) 277 v_11 := kr_add (x := v_9) (y := r_10) t_11 b_9 b_10 rfl
    refine lv_bipush (v := 39) hx hb dX11_divided_84 (by decide) ?_
    refine lv_isub hx hb dX11_divided_86 ?_
    refine lv_topi (fun v_12 e_12 => ?_)
    have t_12 : v_12.toInt = v_11.toInt - 39 := kt_sub e_12 b_11 (kr_c 39 39 rfl) rfl
    have b_12 : kr (-316) 238 v_12 := kr_sub (x := v_11) (y := 39) t_12 b_11 (kr_c 39 39 rfl) rfl
    refine kk_pi (kk_runS (w1 := []) (As := [.long v_2, .int v_12]) (rest := []) hx hb hml hown hts hE (c_X11_packedFloat l D cB cI cJ cD v_2 v_12 s.heap.size) m_X11_packedFloat w_1509 ⟨rfl, rfl, Nat.le_of_ble_eq_true rfl, Nat.le_of_ble_eq_true rfl⟩ (hP.sub [] rfl) (hD.sub [] (by decide +kernel) rfl) rfl hl.1 (Nat.le_of_ble_eq_true rfl) dX11_divided_87 ⟨Nat.le_of_ble_eq_true rfl, Nat.le_of_ble_eq_true rfl⟩) (fun r_13 p_13 => ?_)
    subst hQQ
    exact kk_pret_i hx hb hr hlocks trivial dX11_divided_90
  refine lv_iload_n hx hb dX11_divided_0 rfl (lv_at hl 0 rfl) ?_
  refine lv_if_ne (tgt := 6) hx hb dX11_divided_1 (by decide) (fun c_14 => ?_) (fun c_14 => ?_)
  · have b_15 : kr 1 2147483647 p0 := kr_ne_lo b_p0 c_14 rfl
    have b_16 : kr 1 2147483647 p1 := ⟨hab.resolve_left (fun q => by have q2 := b_15.1; omega), (kr_all _).2⟩
    refine lv_iload_n hx hb dX11_divided_6 rfl (lv_at hl 0 rfl) ?_
    refine kk_pl (kk_runS (w1 := []) (As := [.int p0]) (rest := []) hx hb hml hown hts hE (c_X11_wholeOf_f l D cB cI cJ cD p0 s.heap.size (kr_w b_15 rfl)) m_X11_wholeOf w_1518 ⟨rfl, rfl, Nat.le_of_ble_eq_true rfl, Nat.le_of_ble_eq_true rfl⟩ (hP.sub [] rfl) (hD.sub [] (by decide +kernel) rfl) rfl hl.1 (Nat.le_of_ble_eq_true rfl) dX11_divided_7 ⟨Nat.le_of_ble_eq_true rfl, Nat.le_of_ble_eq_true rfl⟩) (fun r_17 p_17 => ?_)
    have b_17 : kl 0 16777215 r_17 := p_17.1
    have g_18 : (1 ≤ p0.toInt → 1 ≤ r_17.toInt) := p_17.2
    have b_19 : kl 1 16777215 r_17 := ⟨g_18 b_15.1, b_17.2⟩
    refine lv_iload_n hx hb dX11_divided_10 rfl (lv_at hl 0 rfl) ?_
    refine kk_pi (kk_runS (w1 := []) (As := [.int p0]) (rest := [.long r_17]) hx hb hml hown hts hE (c_X11_shortBy_f l D cB cI cJ cD p0 s.heap.size b_15) m_X11_shortBy w_1523 ⟨rfl, rfl, Nat.le_of_ble_eq_true rfl, Nat.le_of_ble_eq_true rfl⟩ (hP.sub [] rfl) (hD.sub [] (by decide +kernel) rfl) rfl hl.1 (Nat.le_of_ble_eq_true rfl) dX11_divided_11 ⟨Nat.le_of_ble_eq_true rfl, Nat.le_of_ble_eq_true rfl⟩) (fun r_20 p_20 => ?_)
    have b_20 : kr 0 23 r_20 := p_20
    refine lv_lshl hx hb dX11_divided_14 rfl ?_
    refine lv_topl (fun v_21 e_21 => ?_)
    have t_21 : v_21.toInt = r_17.toInt * 2 ^ (Int32.toNatClampNeg r_20) := kt_lshl e_21 b_19 b_20 rfl
    have b_21 : kl 1 140737479966720 v_21 := kl_shl t_21 b_19 b_20 rfl
    refine lv_lstore_n (lv' := [(2, .long v_21), (0, .int p0), (1, .int p1)]) hx hb dX11_divided_15 rfl hl (by decide) rfl (fun ls hl => ?_)
    refine lv_iload_n hx hb dX11_divided_16 rfl (lv_at hl 2 rfl) ?_
    refine kk_pl (kk_runS (w1 := []) (As := [.int p1]) (rest := []) hx hb hml hown hts hE (c_X11_wholeOf_f l D cB cI cJ cD p1 s.heap.size (kr_w b_16 rfl)) m_X11_wholeOf w_1518 ⟨rfl, rfl, Nat.le_of_ble_eq_true rfl, Nat.le_of_ble_eq_true rfl⟩ (hP.sub [] rfl) (hD.sub [] (by decide +kernel) rfl) rfl hl.1 (Nat.le_of_ble_eq_true rfl) dX11_divided_17 ⟨Nat.le_of_ble_eq_true rfl, Nat.le_of_ble_eq_true rfl⟩) (fun r_22 p_22 => ?_)
    have b_22 : kl 0 16777215 r_22 := p_22.1
    have g_23 : (1 ≤ p1.toInt → 1 ≤ r_22.toInt) := p_22.2
    have b_24 : kl 1 16777215 r_22 := ⟨g_23 b_16.1, b_22.2⟩
    refine lv_iload_n hx hb dX11_divided_20 rfl (lv_at hl 2 rfl) ?_
    refine kk_pi (kk_runS (w1 := []) (As := [.int p1]) (rest := [.long r_22]) hx hb hml hown hts hE (c_X11_shortBy_f l D cB cI cJ cD p1 s.heap.size b_16) m_X11_shortBy w_1523 ⟨rfl, rfl, Nat.le_of_ble_eq_true rfl, Nat.le_of_ble_eq_true rfl⟩ (hP.sub [] rfl) (hD.sub [] (by decide +kernel) rfl) rfl hl.1 (Nat.le_of_ble_eq_true rfl) dX11_divided_21 ⟨Nat.le_of_ble_eq_true rfl, Nat.le_of_ble_eq_true rfl⟩) (fun r_25 p_25 => ?_)
    have b_25 : kr 0 23 r_25 := p_25
    refine lv_lshl hx hb dX11_divided_24 rfl ?_
    refine lv_topl (fun v_26 e_26 => ?_)
    have t_26 : v_26.toInt = r_22.toInt * 2 ^ (Int32.toNatClampNeg r_25) := kt_lshl e_26 b_24 b_25 rfl
    have b_26 : kl 1 140737479966720 v_26 := kl_shl t_26 b_24 b_25 rfl
    refine lv_lstore (lv' := [(4, .long v_26), (2, .long v_21), (0, .int p0), (1, .int p1)]) hx hb dX11_divided_25 hl (by decide) rfl (fun ls hl => ?_)
    refine lv_lload_n hx hb dX11_divided_27 rfl (lv_at hl 1 rfl) ?_
    refine lv_bipush (v := 38) hx hb dX11_divided_28 (by decide) ?_
    refine lv_lshl hx hb dX11_divided_30 rfl ?_
    refine lv_topl (fun v_27 e_27 => ?_)
    refine lv_lload hx hb dX11_divided_31 (lv_at hl 0 rfl) ?_
    refine lv_ldiv hx hb dX11_divided_33 (kl_n0 b_26 rfl) ?_
    refine lv_topl (fun v_28 e_28 => ?_)
    refine lv_lstore (lv' := [(6, .long v_28), (4, .long v_26), (2, .long v_21), (0, .int p0), (1, .int p1)]) hx hb dX11_divided_34 hl (by decide) rfl (fun ls hl => ?_)
    refine lv_lload hx hb dX11_divided_36 (lv_at hl 0 rfl) ?_
    refine lv_lload hx hb dX11_divided_38 (lv_at hl 1 rfl) ?_
    refine lv_lmul hx hb dX11_divided_40 ?_
    refine lv_topl (fun v_29 e_29 => ?_)
    refine lv_lload_n hx hb dX11_divided_41 rfl (lv_at hl 2 rfl) ?_
    refine lv_bipush (v := 38) hx hb dX11_divided_42 (by decide) ?_
    refine lv_lshl hx hb dX11_divided_44 rfl ?_
    refine lv_topl (fun v_30 e_30 => ?_)
    refine W.lcmp hx hb dX11_divided_45 ?_
    refine lv_topi (fun v_31 e_31 => ?_)
    refine lv_if_ne (tgt := 53) hx hb dX11_divided_46 (by decide) (fun c_32 => ?_) (fun c_32 => ?_)
    · have l_32 : ¬ v_29.toInt = v_30.toInt := klc_ne e_31 c_32
      refine lv_lconst (v := 1) hx hb dX11_divided_53 (by decide) ?_
      exact J_54 v_28 1 _ b_15 b_16 (kl_w (kl_c 1 1 rfl) rfl) (lv_sub hl [0, 3, 4] rfl)
    · have l_32 : v_29.toInt = v_30.toInt := klc_eq e_31 c_32
      have b_33 : kr 0 0 v_31 := kr_eq_l (kr_all v_31) (kr_c 0 0 rfl) c_32 rfl
      refine lv_lconst (v := 0) hx hb dX11_divided_49 (by decide) ?_
      refine lv_goto (tgt := 54) hx hb dX11_divided_50 (by decide) ?_
      exact J_54 v_28 0 _ b_15 b_16 (kl_w (kl_c 0 0 rfl) rfl) (lv_sub hl [0, 3, 4] rfl)
  · have b_34 : kr 0 0 p0 := kr_eq_l b_p0 (kr_c 0 0 rfl) c_14 rfl
    refine lv_iconst (v := 0) hx hb dX11_divided_4 (by decide) ?_
    subst hQQ
    exact kk_pret_i hx hb hr hlocks trivial dX11_divided_5
set_option maxHeartbeats 4000000 in
set_option maxRecDepth 100000 in
theorem c_X11_sumBits (l : Launch) (D : va_G) (cB cI cJ cD : ClassId) (h : Nat) (h_all : Nat) (h_tape : Nat) (h_words : Nat) (h_handName : Nat) (h_toldKey : Nat) (h_toldValue : Nat) (h_stepWhat : Nat) (h_stepHand : Nat) (h_stepLow : Nat) (h_stepHigh : Nat) (h_stepValue : Nat) (h_logHand : Nat) (h_logWhat : Nat) (h_logKey : Nat) (h_logValue : Nat) (h_stepOrder : Nat) (h_goal : Nat) (h_order : Nat) (h_handNext : Nat) (n_h_tapeSize : Int32) (n_h_thrown : Int32) (n_h_fault : Int32) (n_h_faultPlace : Int32) (n_h_stop : Int32) (n_h_next : Int32) (n_h_kind : Int32) (n_h_which : Int32) (n_h_at : Int32) (n_h_got : Int32) (n_h_hands : Int32) (n_h_tolds : Int32) (n_h_steps : Int32) (n_h_handsRead : Int32) (n_h_toldsRead : Int32) (n_h_stepsRead : Int32) (n_h_gotKey : Int32) (n_h_bank : Int32) (n_h_snapshots : Int32) (n_h_noGaps : Int32) (n_h_noReads : Int32) (n_h_allDie : Int32) (n_h_stepMany : Int32) (n_h_stopped : Int32) (n_h_needNow : Int32) (n_h_neededNow : Int32) (n_h_drawn : Int64) (f_h_all : Nat → Int32) (K : Int) (N : Int) (M : Int) (sz : Nat) (b_h_tapeSize : kr 0 700 n_h_tapeSize) (b_h_stop : kr 0 700 n_h_stop) (b_h_next : kr 0 700 n_h_next) (b_h_at : kr 0 700 n_h_at) (b_h_hands : kr 0 5 n_h_hands) (b_h_tolds : kr 0 16 n_h_tolds) (b_h_steps : kr 0 24 n_h_steps) (b_h_handsRead : kr 0 5 n_h_handsRead) (b_h_toldsRead : kr 0 16 n_h_toldsRead) (b_h_stepsRead : kr 0 24 n_h_stepsRead) (b_h_bank : kr 0 1 n_h_bank) (b_h_snapshots : kr 0 16 n_h_snapshots) (b_h_noGaps : kr 0 1 n_h_noGaps) (b_h_noReads : kr 0 1 n_h_noReads) (b_h_allDie : kr 0 1 n_h_allDie) (b_h_stepMany : kr 0 24 n_h_stepMany) (hG : kG K N M f_h_all (kB n_h_bank)) (hK0 : 2139095040 ≤ K) (hK : K ≤ 2147000000) (hN : N ≤ 599) (hM : M ≤ 99000000) : Met l yX11_sumBits (kk_W yX11_sumBits cX11_sumBits 3 (some .int)) ({ frames := 3, cells := 0, slots := 0, locals := 67 }) (va_Pc [.ref h] (kk_pre D cB cI cJ cD [kX h (.ref h_tape) (.int n_h_tapeSize) (.int n_h_thrown) (.ref h_words) (.int n_h_fault) (.int n_h_faultPlace) (.int n_h_stop) (.int n_h_next) (.int n_h_kind) (.int n_h_which) (.int n_h_at) (.int n_h_got) (.int n_h_hands) (.int n_h_tolds) (.int n_h_steps) (.int n_h_handsRead) (.int n_h_toldsRead) (.int n_h_stepsRead) (.ref h_handName) (.ref h_toldKey) (.ref h_toldValue) (.ref h_stepWhat) (.ref h_stepHand) (.ref h_stepLow) (.ref h_stepHigh) (.ref h_stepValue) (.int n_h_gotKey) (.ref h_all) (.int n_h_bank) (.int n_h_snapshots) (.ref h_logHand) (.ref h_logWhat) (.ref h_logKey) (.ref h_logValue) (.int n_h_noGaps) (.int n_h_noReads) (.int n_h_allDie) (.ref h_stepOrder) (.int n_h_stepMany) (.int n_h_stopped) (.int n_h_needNow) (.int n_h_neededNow) (.ref h_goal) (.ref h_order) (.long n_h_drawn) (.ref h_handNext), kI cI h_all 5760 f_h_all] sz)) (vp_Si (fun r => kr 0 2147483647 r ∧ ((f_h_all (kB n_h_bank)).toInt ≤ 0 → r = 0))) 0 0 (fun _ => False) := by
  refine kk_pstart (y := yX11_sumBits) (maxL := 3) (av := [.ref h]) (by decide) (Nat.le_of_ble_eq_true rfl) ?_
  intro p e s m below meth c ls hx hb hr hml hown hts hE hlocks hsz hP hD hl
  have hown : s.vm.findClass RX11 = some m.cls := hown
  have hl : lv_has ls 3 [(0, .ref h)] := hl
  generalize hQQ : MQ below _ _ s _ _ _ = QQ
  have J_4 : ∀ (n : Nat) (x4_l_2 : Int32) (x4_l_1 : Int32) (ls : Array Slot), (24 - x4_l_2.toInt).toNat < n → kr 0 24 x4_l_2 → kr 0 2147483647 x4_l_1 → ((f_h_all (kB n_h_bank)).toInt ≤ 0 → x4_l_1 = 0) → lv_has ls 3 [(2, .int x4_l_2), (1, .int x4_l_1), (0, .ref h)] → W p l e ({ frames := 3, cells := 0, slots := 0, locals := 67 }) s m ([.ref h] : List Value).toArray below meth c s.heap [] 0 0 QQ (F0 m 4 ls []) := by
    intro n
    induction n with
    | zero =>
      intro x4_l_2 x4_l_1 ls hn_4 bx4_l_2 bx4_l_1 r4_0 hl
      exact absurd hn_4 (Nat.not_lt_zero _)
    | succ n ih_4 =>
      intro x4_l_2 x4_l_1 ls hn_4 bx4_l_2 bx4_l_1 r4_0 hl
      refine lv_iload_n hx hb dX11_sumBits_4 rfl (lv_at hl 0 rfl) ?_
      refine lv_aload_n hx hb dX11_sumBits_5 rfl (lv_at hl 2 rfl) ?_
      refine kk_pi (kk_runV (w1 := [kX h (.ref h_tape) (.int n_h_tapeSize) (.int n_h_thrown) (.ref h_words) (.int n_h_fault) (.int n_h_faultPlace) (.int n_h_stop) (.int n_h_next) (.int n_h_kind) (.int n_h_which) (.int n_h_at) (.int n_h_got) (.int n_h_hands) (.int n_h_tolds) (.int n_h_steps) (.int n_h_handsRead) (.int n_h_toldsRead) (.int n_h_stepsRead) (.ref h_handName) (.ref h_toldKey) (.ref h_toldValue) (.ref h_stepWhat) (.ref h_stepHand) (.ref h_stepLow) (.ref h_stepHigh) (.ref h_stepValue) (.int n_h_gotKey) (.ref h_all) (.int n_h_bank) (.int n_h_snapshots) (.ref h_logHand) (.ref h_logWhat) (.ref h_logKey) (.ref h_logValue) (.int n_h_noGaps) (.int n_h_noReads) (.int n_h_allDie) (.ref h_stepOrder) (.int n_h_stepMany) (.int n_h_stopped) (.int n_h_needNow) (.int n_h_neededNow) (.ref h_goal) (.ref h_order) (.long n_h_drawn) (.ref h_handNext), kI cI h_all 5760 f_h_all]) (As := []) (rest := [.int x4_l_2]) hx hb hml hown hts hE (c_X11_many l D cB cI cJ cD h h_all h_tape h_words h_handName h_toldKey h_toldValue h_stepWhat h_stepHand h_stepLow h_stepHigh h_stepValue h_logHand h_logWhat h_logKey h_logValue h_stepOrder h_goal h_order h_handNext n_h_tapeSize n_h_thrown n_h_fault n_h_faultPlace n_h_stop n_h_next n_h_kind n_h_which n_h_at n_h_got n_h_hands n_h_tolds n_h_steps n_h_handsRead n_h_toldsRead n_h_stepsRead n_h_gotKey n_h_bank n_h_snapshots n_h_noGaps n_h_noReads n_h_allDie n_h_stepMany n_h_stopped n_h_needNow n_h_neededNow n_h_drawn f_h_all K N M s.heap.size b_h_tapeSize b_h_stop b_h_next b_h_at b_h_hands b_h_tolds b_h_steps b_h_handsRead b_h_toldsRead b_h_stepsRead b_h_bank b_h_snapshots b_h_noGaps b_h_noReads b_h_allDie b_h_stepMany hG (by have := hK0; show 2139095040 ≤ K; omega) (by have := hK; have := hN; have := hM; show K ≤ 2147000000; omega) (by have := hK; have := hN; have := hM; show N ≤ 599; omega) (by have := hK; have := hN; have := hM; show M ≤ 99000000; omega)) m_X11_many w_1277 ⟨rfl, rfl, Nat.le_of_ble_eq_true rfl, Nat.le_of_ble_eq_true rfl⟩ (hP.sub [0, 1] rfl) (hD.sub [0, 1] (by decide +kernel) rfl) 0 10 rfl rfl rfl hl.1 (Nat.le_of_ble_eq_true rfl) dX11_sumBits_6 ⟨Nat.le_of_ble_eq_true rfl, Nat.le_of_ble_eq_true rfl⟩) (fun r_1 p_1 => ?_)
      have b_1 : kr (-100000000) 24 r_1 := p_1.1
      have g_2 : r_1 = f_h_all (kB n_h_bank + Int32.toNatClampNeg 0) := p_1.2
      refine lv_icmp_ge (tgt := 30) hx hb dX11_sumBits_9 (by decide) (fun c_3 => ?_) (fun c_3 => ?_)
      · have i_3 : r_1.toInt ≤ x4_l_2.toInt := (ki_le c_3)
        refine lv_iload_n hx hb dX11_sumBits_30 rfl (lv_at hl 1 rfl) ?_
        subst hQQ
        exact kk_pret_i hx hb hr hlocks ⟨bx4_l_1, r4_0⟩ dX11_sumBits_31
      · have i_3 : x4_l_2.toInt < r_1.toInt := (ki_nle c_3)
        have b_4 : kr 0 23 x4_l_2 := kr_lt_l bx4_l_2 b_1 i_3 rfl
        have b_5 : kr 1 24 r_1 := kr_lt_r bx4_l_2 b_1 i_3 rfl
        refine lv_iload_n hx hb dX11_sumBits_12 rfl (lv_at hl 1 rfl) ?_
        refine lv_aload_n hx hb dX11_sumBits_13 rfl (lv_at hl 2 rfl) ?_
        refine lv_iconst (v := 1) hx hb dX11_sumBits_14 (by decide) ?_
        refine lv_iload_n hx hb dX11_sumBits_15 rfl (lv_at hl 0 rfl) ?_
        refine lv_iadd hx hb dX11_sumBits_16 ?_
        refine lv_topi (fun v_6 e_6 => ?_)
        have t_6 : v_6.toInt = 1 + x4_l_2.toInt := kt_add e_6 (kr_c 1 1 rfl) b_4 rfl
        have b_6 : kr 1 24 v_6 := kr_add (x := 1) (y := x4_l_2) t_6 (kr_c 1 1 rfl) b_4 rfl
        refine kk_pi (kk_runV (w1 := [kX h (.ref h_tape) (.int n_h_tapeSize) (.int n_h_thrown) (.ref h_words) (.int n_h_fault) (.int n_h_faultPlace) (.int n_h_stop) (.int n_h_next) (.int n_h_kind) (.int n_h_which) (.int n_h_at) (.int n_h_got) (.int n_h_hands) (.int n_h_tolds) (.int n_h_steps) (.int n_h_handsRead) (.int n_h_toldsRead) (.int n_h_stepsRead) (.ref h_handName) (.ref h_toldKey) (.ref h_toldValue) (.ref h_stepWhat) (.ref h_stepHand) (.ref h_stepLow) (.ref h_stepHigh) (.ref h_stepValue) (.int n_h_gotKey) (.ref h_all) (.int n_h_bank) (.int n_h_snapshots) (.ref h_logHand) (.ref h_logWhat) (.ref h_logKey) (.ref h_logValue) (.int n_h_noGaps) (.int n_h_noReads) (.int n_h_allDie) (.ref h_stepOrder) (.int n_h_stepMany) (.int n_h_stopped) (.int n_h_needNow) (.int n_h_neededNow) (.ref h_goal) (.ref h_order) (.long n_h_drawn) (.ref h_handNext), kI cI h_all 5760 f_h_all]) (As := [.int v_6]) (rest := [.int x4_l_1]) hx hb hml hown hts hE (c_X11_of l D cB cI cJ cD h h_all h_tape h_words h_handName h_toldKey h_toldValue h_stepWhat h_stepHand h_stepLow h_stepHigh h_stepValue h_logHand h_logWhat h_logKey h_logValue h_stepOrder h_goal h_order h_handNext n_h_tapeSize n_h_thrown n_h_fault n_h_faultPlace n_h_stop n_h_next n_h_kind n_h_which n_h_at n_h_got n_h_hands n_h_tolds n_h_steps n_h_handsRead n_h_toldsRead n_h_stepsRead n_h_gotKey n_h_bank n_h_snapshots n_h_noGaps n_h_noReads n_h_allDie n_h_stepMany n_h_stopped n_h_needNow n_h_neededNow n_h_drawn f_h_all v_6 s.heap.size b_h_tapeSize b_h_stop b_h_next b_h_at b_h_hands b_h_tolds b_h_steps b_h_handsRead b_h_toldsRead b_h_stepsRead b_h_bank b_h_snapshots b_h_noGaps b_h_noReads b_h_allDie b_h_stepMany (kr_w b_6 rfl)) m_X11_of w_1281 ⟨rfl, rfl, Nat.le_of_ble_eq_true rfl, Nat.le_of_ble_eq_true rfl⟩ (hP.sub [0, 1] rfl) (hD.sub [0, 1] (by decide +kernel) rfl) 0 10 rfl rfl rfl hl.1 (Nat.le_of_ble_eq_true rfl) dX11_sumBits_17 ⟨Nat.le_of_ble_eq_true rfl, Nat.le_of_ble_eq_true rfl⟩) (fun r_7 p_7 => ?_)
        have g_8 : r_7 = f_h_all (kB n_h_bank + Int32.toNatClampNeg v_6) := p_7
        have k_9 : kr 0 K r_7 := kG_rbits hG b_6 g_8 rfl
        have b_7 : kr 0 2147000000 r_7 := kr_K k_9 (by have := hK; have := hN; have := hM; omega)
        refine kk_pi (kk_runS (w1 := []) (As := [.int x4_l_1, .int r_7]) (rest := []) hx hb hml hown hts hE (c_X11_added_f l D cB cI cJ cD x4_l_1 r_7 s.heap.size bx4_l_1 (kr_w b_7 rfl)) m_X11_added w_1582 ⟨rfl, rfl, Nat.le_of_ble_eq_true rfl, Nat.le_of_ble_eq_true rfl⟩ (hP.sub [] rfl) (hD.sub [] (by decide +kernel) rfl) rfl hl.1 (Nat.le_of_ble_eq_true rfl) dX11_sumBits_20 ⟨Nat.le_of_ble_eq_true rfl, Nat.le_of_ble_eq_true rfl⟩) (fun r_10 p_10 => ?_)
        have b_10 : kr 0 2147483647 r_10 := p_10
        refine lv_istore_n (lv' := [(1, .int r_10), (2, .int x4_l_2), (0, .ref h)]) hx hb dX11_sumBits_23 rfl hl (by decide) rfl (fun ls hl => ?_)
        obtain ⟨v_11, e_11⟩ : ∃ y : Int32, y = x4_l_2 + 1 := ⟨_, rfl⟩
        have t_11 : v_11.toInt = x4_l_2.toInt + 1 := kt_add e_11 b_4 (kr_c 1 1 rfl) rfl
        have b_11 : kr 1 24 v_11 := kr_add (x := x4_l_2) (y := 1) t_11 b_4 (kr_c 1 1 rfl) rfl
        refine lv_iinc (v := v_11) (lv' := [(2, .int v_11), (1, .int r_10), (0, .ref h)]) hx hb dX11_sumBits_24 hl (k := 1) rfl (by rw [e_11]; rfl) (by decide) rfl (fun ls hl => ?_)
        refine lv_goto (tgt := 4) hx hb dX11_sumBits_27 (by decide) ?_
        exact ih_4 v_11 r_10 _ (km_up hn_4 t_11 b_11 rfl) (kr_w b_11 rfl) b_10 (fun h9 => by have q1 : r_1 = f_h_all (kB n_h_bank) := g_2; have q2 := i_3; rw [q1] at q2; have q0 := b_10.1; have q0' := b_10.2; have q1 := b_11.1; have q1' := b_11.2; have q2 := b_4.1; have q2' := b_4.2; have q3 := b_h_allDie.1; have q3' := b_h_allDie.2; have q4 := b_h_at.1; have q4' := b_h_at.2; have q5 := b_h_bank.1; have q5' := b_h_bank.2; have q6 := b_h_hands.1; have q6' := b_h_hands.2; have q7 := b_h_handsRead.1; have q7' := b_h_handsRead.2; have q8 := b_h_next.1; have q8' := b_h_next.2; have q9 := b_h_noGaps.1; have q9' := b_h_noGaps.2; have q10 := b_h_noReads.1; have q10' := b_h_noReads.2; have q11 := b_h_snapshots.1; have q11' := b_h_snapshots.2; have q12 := b_h_stepMany.1; have q12' := b_h_stepMany.2; have q13 := b_h_steps.1; have q13' := b_h_steps.2; have q14 := b_h_stepsRead.1; have q14' := b_h_stepsRead.2; have q15 := b_h_stop.1; have q15' := b_h_stop.2; have q16 := b_h_tapeSize.1; have q16' := b_h_tapeSize.2; have q17 := b_h_tolds.1; have q17' := b_h_tolds.2; have q18 := b_h_toldsRead.1; have q18' := b_h_toldsRead.2; omega) (lv_sub hl [0, 1, 2] rfl)
  refine lv_iconst (v := 0) hx hb dX11_sumBits_0 (by decide) ?_
  refine lv_istore_n (lv' := [(1, .int 0), (0, .ref h)]) hx hb dX11_sumBits_1 rfl hl (by decide) rfl (fun ls hl => ?_)
  refine lv_iconst (v := 0) hx hb dX11_sumBits_2 (by decide) ?_
  refine lv_istore_n (lv' := [(2, .int 0), (1, .int 0), (0, .ref h)]) hx hb dX11_sumBits_3 rfl hl (by decide) rfl (fun ls hl => ?_)
  exact J_4 _ 0 0 _ (Nat.lt_succ_self _) (kr_w (kr_c 0 0 rfl) rfl) (kr_w (kr_c 0 0 rfl) rfl) (fun _ => rfl) (lv_sub hl [0, 1, 2] rfl)
set_option maxHeartbeats 4000000 in
set_option maxRecDepth 100000 in
theorem c_X11_floatOf (l : Launch) (D : va_G) (cB cI cJ cD : ClassId) (p0 : Int32) (sz : Nat) : Met l yX11_floatOf (kk_W yX11_floatOf cX11_floatOf 1 (some .int)) ({ frames := 1, cells := 0, slots := 0, locals := 30 }) (va_Pc [.int p0] (kk_pre D cB cI cJ cD [] sz)) (vp_Si (fun r => True)) 0 0 (fun _ => False) := by
  refine kk_pstart (y := yX11_floatOf) (maxL := 1) (av := [.int p0]) (by decide) (Nat.le_of_ble_eq_true rfl) ?_
  intro p e s m below meth c ls hx hb hr hml hown hts hE hlocks hsz hP hD hl
  have hown : s.vm.findClass RX11 = some m.cls := hown
  have hl : lv_has ls 1 [(0, .int p0)] := hl
  refine lv_iload_n hx hb dX11_floatOf_0 rfl (lv_at hl 0 rfl) ?_
  refine lv_i2l hx hb dX11_floatOf_1 rfl ?_
  refine lv_topl (fun v_1 e_1 => ?_)
  refine lv_iconst (v := 0) hx hb dX11_floatOf_2 (by decide) ?_
  refine kk_pi (kk_runS (w1 := []) (As := [.long v_1, .int 0]) (rest := []) hx hb hml hown hts hE (c_X11_packedFloat l D cB cI cJ cD v_1 0 s.heap.size) m_X11_packedFloat w_1509 ⟨rfl, rfl, Nat.le_of_ble_eq_true rfl, Nat.le_of_ble_eq_true rfl⟩ (hP.sub [] rfl) (hD.sub [] (by decide +kernel) rfl) rfl hl.1 (Nat.le_of_ble_eq_true rfl) dX11_floatOf_3 ⟨Nat.le_of_ble_eq_true rfl, Nat.le_of_ble_eq_true rfl⟩) (fun r_2 p_2 => ?_)
  exact kk_pret_i hx hb hr hlocks trivial dX11_floatOf_6
set_option maxHeartbeats 4000000 in
set_option maxRecDepth 100000 in
theorem c_X11_mean (l : Launch) (D : va_G) (cB cI cJ cD : ClassId) (h : Nat) (h_all : Nat) (h_tape : Nat) (h_words : Nat) (h_handName : Nat) (h_toldKey : Nat) (h_toldValue : Nat) (h_stepWhat : Nat) (h_stepHand : Nat) (h_stepLow : Nat) (h_stepHigh : Nat) (h_stepValue : Nat) (h_logHand : Nat) (h_logWhat : Nat) (h_logKey : Nat) (h_logValue : Nat) (h_stepOrder : Nat) (h_goal : Nat) (h_order : Nat) (h_handNext : Nat) (n_h_tapeSize : Int32) (n_h_thrown : Int32) (n_h_fault : Int32) (n_h_faultPlace : Int32) (n_h_stop : Int32) (n_h_next : Int32) (n_h_kind : Int32) (n_h_which : Int32) (n_h_at : Int32) (n_h_got : Int32) (n_h_hands : Int32) (n_h_tolds : Int32) (n_h_steps : Int32) (n_h_handsRead : Int32) (n_h_toldsRead : Int32) (n_h_stepsRead : Int32) (n_h_gotKey : Int32) (n_h_bank : Int32) (n_h_snapshots : Int32) (n_h_noGaps : Int32) (n_h_noReads : Int32) (n_h_allDie : Int32) (n_h_stepMany : Int32) (n_h_stopped : Int32) (n_h_needNow : Int32) (n_h_neededNow : Int32) (n_h_drawn : Int64) (f_h_all : Nat → Int32) (K : Int) (N : Int) (M : Int) (sz : Nat) (b_h_tapeSize : kr 0 700 n_h_tapeSize) (b_h_stop : kr 0 700 n_h_stop) (b_h_next : kr 0 700 n_h_next) (b_h_at : kr 0 700 n_h_at) (b_h_hands : kr 0 5 n_h_hands) (b_h_tolds : kr 0 16 n_h_tolds) (b_h_steps : kr 0 24 n_h_steps) (b_h_handsRead : kr 0 5 n_h_handsRead) (b_h_toldsRead : kr 0 16 n_h_toldsRead) (b_h_stepsRead : kr 0 24 n_h_stepsRead) (b_h_bank : kr 0 1 n_h_bank) (b_h_snapshots : kr 0 16 n_h_snapshots) (b_h_noGaps : kr 0 1 n_h_noGaps) (b_h_noReads : kr 0 1 n_h_noReads) (b_h_allDie : kr 0 1 n_h_allDie) (b_h_stepMany : kr 0 24 n_h_stepMany) (hG : kG K N M f_h_all (kB n_h_bank)) (hK0 : 2139095040 ≤ K) (hK : K ≤ 2147000000) (hN : N ≤ 590) (hM : M ≤ 90000000) : Met l yX11_mean (kk_W yX11_mean cX11_mean 1 (some .int)) ({ frames := 4, cells := 0, slots := 0, locals := 89 }) (va_Pc [.ref h] (kk_pre D cB cI cJ cD [kX h (.ref h_tape) (.int n_h_tapeSize) (.int n_h_thrown) (.ref h_words) (.int n_h_fault) (.int n_h_faultPlace) (.int n_h_stop) (.int n_h_next) (.int n_h_kind) (.int n_h_which) (.int n_h_at) (.int n_h_got) (.int n_h_hands) (.int n_h_tolds) (.int n_h_steps) (.int n_h_handsRead) (.int n_h_toldsRead) (.int n_h_stepsRead) (.ref h_handName) (.ref h_toldKey) (.ref h_toldValue) (.ref h_stepWhat) (.ref h_stepHand) (.ref h_stepLow) (.ref h_stepHigh) (.ref h_stepValue) (.int n_h_gotKey) (.ref h_all) (.int n_h_bank) (.int n_h_snapshots) (.ref h_logHand) (.ref h_logWhat) (.ref h_logKey) (.ref h_logValue) (.int n_h_noGaps) (.int n_h_noReads) (.int n_h_allDie) (.ref h_stepOrder) (.int n_h_stepMany) (.int n_h_stopped) (.int n_h_needNow) (.int n_h_neededNow) (.ref h_goal) (.ref h_order) (.long n_h_drawn) (.ref h_handNext), kI cI h_all 5760 f_h_all] sz)) (kk_Qi D (fun (r : Int32) (u : (Nat → Nat) × (Nat → Nat → Int32) × (Nat → Nat → Int64) × (Nat → Int32)) => True) (fun u => [kX h (.ref h_tape) (.int n_h_tapeSize) (.int 0) (.ref h_words) (.int n_h_fault) (.int n_h_faultPlace) (.int n_h_stop) (.int n_h_next) (.int n_h_kind) (.int n_h_which) (.int n_h_at) (.int n_h_got) (.int n_h_hands) (.int n_h_tolds) (.int n_h_steps) (.int n_h_handsRead) (.int n_h_toldsRead) (.int n_h_stepsRead) (.ref h_handName) (.ref h_toldKey) (.ref h_toldValue) (.ref h_stepWhat) (.ref h_stepHand) (.ref h_stepLow) (.ref h_stepHigh) (.ref h_stepValue) (.int n_h_gotKey) (.ref h_all) (.int n_h_bank) (.int n_h_snapshots) (.ref h_logHand) (.ref h_logWhat) (.ref h_logKey) (.ref h_logValue) (.int n_h_noGaps) (.int n_h_noReads) (.int n_h_allDie) (.ref h_stepOrder) (.int n_h_stepMany) (.int n_h_stopped) (.int n_h_needNow) (.int n_h_neededNow) (.ref h_goal) (.ref h_order) (.long n_h_drawn) (.ref h_handNext), kI cI h_all 5760 f_h_all]) (va_A [kX h (.ref h_tape) (.int n_h_tapeSize) (.int n_h_thrown) (.ref h_words) (.int n_h_fault) (.int n_h_faultPlace) (.int n_h_stop) (.int n_h_next) (.int n_h_kind) (.int n_h_which) (.int n_h_at) (.int n_h_got) (.int n_h_hands) (.int n_h_tolds) (.int n_h_steps) (.int n_h_handsRead) (.int n_h_toldsRead) (.int n_h_stepsRead) (.ref h_handName) (.ref h_toldKey) (.ref h_toldValue) (.ref h_stepWhat) (.ref h_stepHand) (.ref h_stepLow) (.ref h_stepHigh) (.ref h_stepValue) (.int n_h_gotKey) (.ref h_all) (.int n_h_bank) (.int n_h_snapshots) (.ref h_logHand) (.ref h_logWhat) (.ref h_logKey) (.ref h_logValue) (.int n_h_noGaps) (.int n_h_noReads) (.int n_h_allDie) (.ref h_stepOrder) (.int n_h_stepMany) (.int n_h_stopped) (.int n_h_needNow) (.int n_h_neededNow) (.ref h_goal) (.ref h_order) (.long n_h_drawn) (.ref h_handNext), kI cI h_all 5760 f_h_all] sz)) 0 0 (va_A [kX h (.ref h_tape) (.int n_h_tapeSize) (.int n_h_thrown) (.ref h_words) (.int n_h_fault) (.int n_h_faultPlace) (.int n_h_stop) (.int n_h_next) (.int n_h_kind) (.int n_h_which) (.int n_h_at) (.int n_h_got) (.int n_h_hands) (.int n_h_tolds) (.int n_h_steps) (.int n_h_handsRead) (.int n_h_toldsRead) (.int n_h_stepsRead) (.ref h_handName) (.ref h_toldKey) (.ref h_toldValue) (.ref h_stepWhat) (.ref h_stepHand) (.ref h_stepLow) (.ref h_stepHigh) (.ref h_stepValue) (.int n_h_gotKey) (.ref h_all) (.int n_h_bank) (.int n_h_snapshots) (.ref h_logHand) (.ref h_logWhat) (.ref h_logKey) (.ref h_logValue) (.int n_h_noGaps) (.int n_h_noReads) (.int n_h_allDie) (.ref h_stepOrder) (.int n_h_stepMany) (.int n_h_stopped) (.int n_h_needNow) (.int n_h_neededNow) (.ref h_goal) (.ref h_order) (.long n_h_drawn) (.ref h_handNext), kI cI h_all 5760 f_h_all] sz) := by
  refine kk_start (y := yX11_mean) (maxL := 1) (av := [.ref h]) (Qc := fun A => kk_Qi D (fun (r : Int32) (u : (Nat → Nat) × (Nat → Nat → Int32) × (Nat → Nat → Int64) × (Nat → Int32)) => True) (fun u => [kX h (.ref h_tape) (.int n_h_tapeSize) (.int 0) (.ref h_words) (.int n_h_fault) (.int n_h_faultPlace) (.int n_h_stop) (.int n_h_next) (.int n_h_kind) (.int n_h_which) (.int n_h_at) (.int n_h_got) (.int n_h_hands) (.int n_h_tolds) (.int n_h_steps) (.int n_h_handsRead) (.int n_h_toldsRead) (.int n_h_stepsRead) (.ref h_handName) (.ref h_toldKey) (.ref h_toldValue) (.ref h_stepWhat) (.ref h_stepHand) (.ref h_stepLow) (.ref h_stepHigh) (.ref h_stepValue) (.int n_h_gotKey) (.ref h_all) (.int n_h_bank) (.int n_h_snapshots) (.ref h_logHand) (.ref h_logWhat) (.ref h_logKey) (.ref h_logValue) (.int n_h_noGaps) (.int n_h_noReads) (.int n_h_allDie) (.ref h_stepOrder) (.int n_h_stepMany) (.int n_h_stopped) (.int n_h_needNow) (.int n_h_neededNow) (.ref h_goal) (.ref h_order) (.long n_h_drawn) (.ref h_handNext), kI cI h_all 5760 f_h_all]) A) (by decide) (Nat.le_of_ble_eq_true rfl) ?_
  intro p e s m below meth c ls A hx hb hr hml hown hts hE hlocks hin hsz hP hD hA hS hl
  have hown : s.vm.findClass RX11 = some m.cls := hown
  have hl : lv_has ls 1 [(0, .ref h)] := hl
  refine lv_aload_n hx hb dX11_mean_0 rfl (lv_at hl 0 rfl) ?_
  refine lv_iconst (v := 0) hx hb dX11_mean_1 (by decide) ?_
  refine va_put (D := D) (ci := 10) (v := .int 0) (ty := .int) (C := RX11) (T := TX11) (N := 46) hx hb hts u_X11 tyX11 tyX11_ok nmX11 hown hE.1 hP hD hS 0 rfl rfl 2 (by decide) (hts _ w_1303) (fun _ h9 => h9) rfl (by decide +kernel) rfl rfl (Nat.le_of_ble_eq_true rfl) dX11_mean_2 (fun H locs hP hD hS => ?_)
  obtain ⟨hP, hD⟩ : kPD D A [kX h (.ref h_tape) (.int n_h_tapeSize) (.int 0) (.ref h_words) (.int n_h_fault) (.int n_h_faultPlace) (.int n_h_stop) (.int n_h_next) (.int n_h_kind) (.int n_h_which) (.int n_h_at) (.int n_h_got) (.int n_h_hands) (.int n_h_tolds) (.int n_h_steps) (.int n_h_handsRead) (.int n_h_toldsRead) (.int n_h_stepsRead) (.ref h_handName) (.ref h_toldKey) (.ref h_toldValue) (.ref h_stepWhat) (.ref h_stepHand) (.ref h_stepLow) (.ref h_stepHigh) (.ref h_stepValue) (.int n_h_gotKey) (.ref h_all) (.int n_h_bank) (.int n_h_snapshots) (.ref h_logHand) (.ref h_logWhat) (.ref h_logKey) (.ref h_logValue) (.int n_h_noGaps) (.int n_h_noReads) (.int n_h_allDie) (.ref h_stepOrder) (.int n_h_stepMany) (.int n_h_stopped) (.int n_h_needNow) (.int n_h_neededNow) (.ref h_goal) (.ref h_order) (.long n_h_drawn) (.ref h_handNext), kI cI h_all 5760 f_h_all] H := ⟨hP, hD⟩
  refine lv_aload_n hx hb dX11_mean_5 rfl (lv_at hl 0 rfl) ?_
  refine kk_pi (kk_runV (w1 := [kX h (.ref h_tape) (.int n_h_tapeSize) (.int 0) (.ref h_words) (.int n_h_fault) (.int n_h_faultPlace) (.int n_h_stop) (.int n_h_next) (.int n_h_kind) (.int n_h_which) (.int n_h_at) (.int n_h_got) (.int n_h_hands) (.int n_h_tolds) (.int n_h_steps) (.int n_h_handsRead) (.int n_h_toldsRead) (.int n_h_stepsRead) (.ref h_handName) (.ref h_toldKey) (.ref h_toldValue) (.ref h_stepWhat) (.ref h_stepHand) (.ref h_stepLow) (.ref h_stepHigh) (.ref h_stepValue) (.int n_h_gotKey) (.ref h_all) (.int n_h_bank) (.int n_h_snapshots) (.ref h_logHand) (.ref h_logWhat) (.ref h_logKey) (.ref h_logValue) (.int n_h_noGaps) (.int n_h_noReads) (.int n_h_allDie) (.ref h_stepOrder) (.int n_h_stepMany) (.int n_h_stopped) (.int n_h_needNow) (.int n_h_neededNow) (.ref h_goal) (.ref h_order) (.long n_h_drawn) (.ref h_handNext), kI cI h_all 5760 f_h_all]) (As := []) (rest := []) hx hb hml hown hts hE (c_X11_many l D cB cI cJ cD h h_all h_tape h_words h_handName h_toldKey h_toldValue h_stepWhat h_stepHand h_stepLow h_stepHigh h_stepValue h_logHand h_logWhat h_logKey h_logValue h_stepOrder h_goal h_order h_handNext n_h_tapeSize 0 n_h_fault n_h_faultPlace n_h_stop n_h_next n_h_kind n_h_which n_h_at n_h_got n_h_hands n_h_tolds n_h_steps n_h_handsRead n_h_toldsRead n_h_stepsRead n_h_gotKey n_h_bank n_h_snapshots n_h_noGaps n_h_noReads n_h_allDie n_h_stepMany n_h_stopped n_h_needNow n_h_neededNow n_h_drawn f_h_all K N M H.size b_h_tapeSize b_h_stop b_h_next b_h_at b_h_hands b_h_tolds b_h_steps b_h_handsRead b_h_toldsRead b_h_stepsRead b_h_bank b_h_snapshots b_h_noGaps b_h_noReads b_h_allDie b_h_stepMany hG (by have := hK0; show 2139095040 ≤ K; omega) (by have := hK; have := hN; have := hM; show K ≤ 2147000000; omega) (by have := hK; have := hN; have := hM; show N ≤ 599; omega) (by have := hK; have := hN; have := hM; show M ≤ 99000000; omega)) m_X11_many w_1277 ⟨rfl, rfl, Nat.le_of_ble_eq_true rfl, Nat.le_of_ble_eq_true rfl⟩ (hP.sub [0, 1] rfl) (hD.sub [0, 1] (by decide +kernel) rfl) 0 10 rfl rfl rfl hl.1 (Nat.le_of_ble_eq_true rfl) dX11_mean_6 ⟨Nat.le_of_ble_eq_true rfl, Nat.le_of_ble_eq_true rfl⟩) (fun r_1 p_1 => ?_)
  have b_1 : kr (-100000000) 24 r_1 := p_1.1
  have g_2 : r_1 = f_h_all (kB n_h_bank + Int32.toNatClampNeg 0) := p_1.2
  refine lv_if_ne (tgt := 17) hx hb dX11_mean_9 (by decide) (fun c_3 => ?_) (fun c_3 => ?_)
  · refine lv_aload_n hx hb dX11_mean_17 rfl (lv_at hl 0 rfl) ?_
    refine kk_pi (kk_runV (w1 := [kX h (.ref h_tape) (.int n_h_tapeSize) (.int 0) (.ref h_words) (.int n_h_fault) (.int n_h_faultPlace) (.int n_h_stop) (.int n_h_next) (.int n_h_kind) (.int n_h_which) (.int n_h_at) (.int n_h_got) (.int n_h_hands) (.int n_h_tolds) (.int n_h_steps) (.int n_h_handsRead) (.int n_h_toldsRead) (.int n_h_stepsRead) (.ref h_handName) (.ref h_toldKey) (.ref h_toldValue) (.ref h_stepWhat) (.ref h_stepHand) (.ref h_stepLow) (.ref h_stepHigh) (.ref h_stepValue) (.int n_h_gotKey) (.ref h_all) (.int n_h_bank) (.int n_h_snapshots) (.ref h_logHand) (.ref h_logWhat) (.ref h_logKey) (.ref h_logValue) (.int n_h_noGaps) (.int n_h_noReads) (.int n_h_allDie) (.ref h_stepOrder) (.int n_h_stepMany) (.int n_h_stopped) (.int n_h_needNow) (.int n_h_neededNow) (.ref h_goal) (.ref h_order) (.long n_h_drawn) (.ref h_handNext), kI cI h_all 5760 f_h_all]) (As := []) (rest := []) hx hb hml hown hts hE (c_X11_sumBits l D cB cI cJ cD h h_all h_tape h_words h_handName h_toldKey h_toldValue h_stepWhat h_stepHand h_stepLow h_stepHigh h_stepValue h_logHand h_logWhat h_logKey h_logValue h_stepOrder h_goal h_order h_handNext n_h_tapeSize 0 n_h_fault n_h_faultPlace n_h_stop n_h_next n_h_kind n_h_which n_h_at n_h_got n_h_hands n_h_tolds n_h_steps n_h_handsRead n_h_toldsRead n_h_stepsRead n_h_gotKey n_h_bank n_h_snapshots n_h_noGaps n_h_noReads n_h_allDie n_h_stepMany n_h_stopped n_h_needNow n_h_neededNow n_h_drawn f_h_all K N M H.size b_h_tapeSize b_h_stop b_h_next b_h_at b_h_hands b_h_tolds b_h_steps b_h_handsRead b_h_toldsRead b_h_stepsRead b_h_bank b_h_snapshots b_h_noGaps b_h_noReads b_h_allDie b_h_stepMany hG (by have := hK0; show 2139095040 ≤ K; omega) (by have := hK; have := hN; have := hM; show K ≤ 2147000000; omega) (by have := hK; have := hN; have := hM; show N ≤ 599; omega) (by have := hK; have := hN; have := hM; show M ≤ 99000000; omega)) m_X11_sumBits w_1589 ⟨rfl, rfl, Nat.le_of_ble_eq_true rfl, Nat.le_of_ble_eq_true rfl⟩ (hP.sub [0, 1] rfl) (hD.sub [0, 1] (by decide +kernel) rfl) 0 10 rfl rfl rfl hl.1 (Nat.le_of_ble_eq_true rfl) dX11_mean_18 ⟨Nat.le_of_ble_eq_true rfl, Nat.le_of_ble_eq_true rfl⟩) (fun r_4 p_4 => ?_)
    have b_4 : kr 0 2147483647 r_4 := p_4.1
    have g_5 : ((f_h_all (kB n_h_bank)).toInt ≤ 0 → r_4 = 0) := p_4.2
    refine lv_aload_n hx hb dX11_mean_21 rfl (lv_at hl 0 rfl) ?_
    refine kk_pi (kk_runV (w1 := [kX h (.ref h_tape) (.int n_h_tapeSize) (.int 0) (.ref h_words) (.int n_h_fault) (.int n_h_faultPlace) (.int n_h_stop) (.int n_h_next) (.int n_h_kind) (.int n_h_which) (.int n_h_at) (.int n_h_got) (.int n_h_hands) (.int n_h_tolds) (.int n_h_steps) (.int n_h_handsRead) (.int n_h_toldsRead) (.int n_h_stepsRead) (.ref h_handName) (.ref h_toldKey) (.ref h_toldValue) (.ref h_stepWhat) (.ref h_stepHand) (.ref h_stepLow) (.ref h_stepHigh) (.ref h_stepValue) (.int n_h_gotKey) (.ref h_all) (.int n_h_bank) (.int n_h_snapshots) (.ref h_logHand) (.ref h_logWhat) (.ref h_logKey) (.ref h_logValue) (.int n_h_noGaps) (.int n_h_noReads) (.int n_h_allDie) (.ref h_stepOrder) (.int n_h_stepMany) (.int n_h_stopped) (.int n_h_needNow) (.int n_h_neededNow) (.ref h_goal) (.ref h_order) (.long n_h_drawn) (.ref h_handNext), kI cI h_all 5760 f_h_all]) (As := []) (rest := [.int r_4]) hx hb hml hown hts hE (c_X11_many l D cB cI cJ cD h h_all h_tape h_words h_handName h_toldKey h_toldValue h_stepWhat h_stepHand h_stepLow h_stepHigh h_stepValue h_logHand h_logWhat h_logKey h_logValue h_stepOrder h_goal h_order h_handNext n_h_tapeSize 0 n_h_fault n_h_faultPlace n_h_stop n_h_next n_h_kind n_h_which n_h_at n_h_got n_h_hands n_h_tolds n_h_steps n_h_handsRead n_h_toldsRead n_h_stepsRead n_h_gotKey n_h_bank n_h_snapshots n_h_noGaps n_h_noReads n_h_allDie n_h_stepMany n_h_stopped n_h_needNow n_h_neededNow n_h_drawn f_h_all K N M H.size b_h_tapeSize b_h_stop b_h_next b_h_at b_h_hands b_h_tolds b_h_steps b_h_handsRead b_h_toldsRead b_h_stepsRead b_h_bank b_h_snapshots b_h_noGaps b_h_noReads b_h_allDie b_h_stepMany hG (by have := hK0; show 2139095040 ≤ K; omega) (by have := hK; have := hN; have := hM; show K ≤ 2147000000; omega) (by have := hK; have := hN; have := hM; show N ≤ 599; omega) (by have := hK; have := hN; have := hM; show M ≤ 99000000; omega)) m_X11_many w_1277 ⟨rfl, rfl, Nat.le_of_ble_eq_true rfl, Nat.le_of_ble_eq_true rfl⟩ (hP.sub [0, 1] rfl) (hD.sub [0, 1] (by decide +kernel) rfl) 0 10 rfl rfl rfl hl.1 (Nat.le_of_ble_eq_true rfl) dX11_mean_22 ⟨Nat.le_of_ble_eq_true rfl, Nat.le_of_ble_eq_true rfl⟩) (fun r_6 p_6 => ?_)
    have b_6 : kr (-100000000) 24 r_6 := p_6.1
    have g_7 : r_6 = f_h_all (kB n_h_bank + Int32.toNatClampNeg 0) := p_6.2
    rcases (show r_6.toInt ≤ 0 ∨ 0 < r_6.toInt by omega) with q_8 | q_8
    · have b_9 : kr (-100000000) 0 r_6 := ⟨b_6.1, q_8⟩
      refine kk_pi (kk_runS (w1 := []) (As := [.int r_6]) (rest := [.int r_4]) hx hb hml hown hts hE (c_X11_floatOf l D cB cI cJ cD r_6 H.size) m_X11_floatOf w_1506 ⟨rfl, rfl, Nat.le_of_ble_eq_true rfl, Nat.le_of_ble_eq_true rfl⟩ (hP.sub [] rfl) (hD.sub [] (by decide +kernel) rfl) rfl hl.1 (Nat.le_of_ble_eq_true rfl) dX11_mean_25 ⟨Nat.le_of_ble_eq_true rfl, Nat.le_of_ble_eq_true rfl⟩) (fun r_10 p_10 => ?_)
      refine kk_pi (kk_runS (w1 := []) (As := [.int r_4, .int r_10]) (rest := []) hx hb hml hown hts hE (c_X11_divided_f l D cB cI cJ cD r_4 r_10 H.size b_4 (Or.inl (by have q1 : r_6 = f_h_all (kB n_h_bank) := g_7; have q2 := q_8; rw [q1] at q2; rw [g_5 q2]; rfl))) m_X11_divided w_1515 ⟨rfl, rfl, Nat.le_of_ble_eq_true rfl, Nat.le_of_ble_eq_true rfl⟩ (hP.sub [] rfl) (hD.sub [] (by decide +kernel) rfl) rfl hl.1 (Nat.le_of_ble_eq_true rfl) dX11_mean_28 ⟨Nat.le_of_ble_eq_true rfl, Nat.le_of_ble_eq_true rfl⟩) (fun r_11 p_11 => ?_)
      exact kk_ret_i ((fun _ => 0), (fun i => [].getD i (fun _ => 0)), (fun i => [].getD i (fun _ => 0)), (fun i => [].getD i 0)) hx hb hr hlocks trivial (hP.sub [0, 1] rfl) (hD.sub [0, 1] (by decide +kernel) rfl) hS dX11_mean_31 (Nat.le_of_ble_eq_true rfl) (Nat.le_of_ble_eq_true rfl)
    · have b_12 : kr 1 24 r_6 := ⟨by omega, b_6.2⟩
      refine kk_pi (kk_runS (w1 := []) (As := [.int r_6]) (rest := [.int r_4]) hx hb hml hown hts hE (c_X11_floatOf_s l D cB cI cJ cD r_6 H.size b_12) m_X11_floatOf w_1506 ⟨rfl, rfl, Nat.le_of_ble_eq_true rfl, Nat.le_of_ble_eq_true rfl⟩ (hP.sub [] rfl) (hD.sub [] (by decide +kernel) rfl) rfl hl.1 (Nat.le_of_ble_eq_true rfl) dX11_mean_25 ⟨Nat.le_of_ble_eq_true rfl, Nat.le_of_ble_eq_true rfl⟩) (fun r_13 p_13 => ?_)
      have g_14 : r_13 = pF (Int32.toNatClampNeg r_6) 0 := p_13
      have b_15 : kr 1 2147483647 r_13 := (by rw [g_14]; exact pF_kr b_12)
      refine kk_pi (kk_runS (w1 := []) (As := [.int r_4, .int r_13]) (rest := []) hx hb hml hown hts hE (c_X11_divided_f l D cB cI cJ cD r_4 r_13 H.size b_4 (Or.inr b_15.1)) m_X11_divided w_1515 ⟨rfl, rfl, Nat.le_of_ble_eq_true rfl, Nat.le_of_ble_eq_true rfl⟩ (hP.sub [] rfl) (hD.sub [] (by decide +kernel) rfl) rfl hl.1 (Nat.le_of_ble_eq_true rfl) dX11_mean_28 ⟨Nat.le_of_ble_eq_true rfl, Nat.le_of_ble_eq_true rfl⟩) (fun r_16 p_16 => ?_)
      exact kk_ret_i ((fun _ => 0), (fun i => [].getD i (fun _ => 0)), (fun i => [].getD i (fun _ => 0)), (fun i => [].getD i 0)) hx hb hr hlocks trivial (hP.sub [0, 1] rfl) (hD.sub [0, 1] (by decide +kernel) rfl) hS dX11_mean_31 (Nat.le_of_ble_eq_true rfl) (Nat.le_of_ble_eq_true rfl)
  · have b_17 : kr 0 0 r_1 := kr_eq_l b_1 (kr_c 0 0 rfl) c_3 rfl
    refine lv_bipush (v := (-2)) hx hb dX11_mean_12 (by decide) ?_
    refine lv_goto (tgt := 31) hx hb dX11_mean_14 (by decide) ?_
    exact kk_ret_i ((fun _ => 0), (fun i => [].getD i (fun _ => 0)), (fun i => [].getD i (fun _ => 0)), (fun i => [].getD i 0)) hx hb hr hlocks trivial (hP.sub [0, 1] rfl) (hD.sub [0, 1] (by decide +kernel) rfl) hS dX11_mean_31 (Nat.le_of_ble_eq_true rfl) (Nat.le_of_ble_eq_true rfl)
set_option maxHeartbeats 4000000 in
set_option maxRecDepth 100000 in
theorem c_X11_ratio (l : Launch) (D : va_G) (cB cI cJ cD : ClassId) (h : Nat) (h_all : Nat) (h_tape : Nat) (h_words : Nat) (h_handName : Nat) (h_toldKey : Nat) (h_toldValue : Nat) (h_stepWhat : Nat) (h_stepHand : Nat) (h_stepLow : Nat) (h_stepHigh : Nat) (h_stepValue : Nat) (h_logHand : Nat) (h_logWhat : Nat) (h_logKey : Nat) (h_logValue : Nat) (h_stepOrder : Nat) (h_goal : Nat) (h_order : Nat) (h_handNext : Nat) (n_h_tapeSize : Int32) (n_h_thrown : Int32) (n_h_fault : Int32) (n_h_faultPlace : Int32) (n_h_stop : Int32) (n_h_next : Int32) (n_h_kind : Int32) (n_h_which : Int32) (n_h_at : Int32) (n_h_got : Int32) (n_h_hands : Int32) (n_h_tolds : Int32) (n_h_steps : Int32) (n_h_handsRead : Int32) (n_h_toldsRead : Int32) (n_h_stepsRead : Int32) (n_h_gotKey : Int32) (n_h_bank : Int32) (n_h_snapshots : Int32) (n_h_noGaps : Int32) (n_h_noReads : Int32) (n_h_allDie : Int32) (n_h_stepMany : Int32) (n_h_stopped : Int32) (n_h_needNow : Int32) (n_h_neededNow : Int32) (n_h_drawn : Int64) (f_h_all : Nat → Int32) (p0 : Int32) (p1 : Int32) (K : Int) (N : Int) (M : Int) (sz : Nat) (b_h_tapeSize : kr 0 700 n_h_tapeSize) (b_h_stop : kr 0 700 n_h_stop) (b_h_next : kr 0 700 n_h_next) (b_h_at : kr 0 700 n_h_at) (b_h_hands : kr 0 5 n_h_hands) (b_h_tolds : kr 0 16 n_h_tolds) (b_h_steps : kr 0 24 n_h_steps) (b_h_handsRead : kr 0 5 n_h_handsRead) (b_h_toldsRead : kr 0 16 n_h_toldsRead) (b_h_stepsRead : kr 0 24 n_h_stepsRead) (b_h_bank : kr 0 1 n_h_bank) (b_h_snapshots : kr 0 16 n_h_snapshots) (b_h_noGaps : kr 0 1 n_h_noGaps) (b_h_noReads : kr 0 1 n_h_noReads) (b_h_allDie : kr 0 1 n_h_allDie) (b_h_stepMany : kr 0 24 n_h_stepMany) (hG : kG K N M f_h_all (kB n_h_bank)) (hK0 : 2139095040 ≤ K) (hK : K ≤ 2147000000) (hN : N ≤ 590) (hM : M ≤ 90000000) : Met l yX11_ratio (kk_W yX11_ratio cX11_ratio 3 (some .int)) ({ frames := 3, cells := 0, slots := 0, locals := 70 }) (va_Pc [.ref h, .int p0, .int p1] (kk_pre D cB cI cJ cD [kX h (.ref h_tape) (.int n_h_tapeSize) (.int n_h_thrown) (.ref h_words) (.int n_h_fault) (.int n_h_faultPlace) (.int n_h_stop) (.int n_h_next) (.int n_h_kind) (.int n_h_which) (.int n_h_at) (.int n_h_got) (.int n_h_hands) (.int n_h_tolds) (.int n_h_steps) (.int n_h_handsRead) (.int n_h_toldsRead) (.int n_h_stepsRead) (.ref h_handName) (.ref h_toldKey) (.ref h_toldValue) (.ref h_stepWhat) (.ref h_stepHand) (.ref h_stepLow) (.ref h_stepHigh) (.ref h_stepValue) (.int n_h_gotKey) (.ref h_all) (.int n_h_bank) (.int n_h_snapshots) (.ref h_logHand) (.ref h_logWhat) (.ref h_logKey) (.ref h_logValue) (.int n_h_noGaps) (.int n_h_noReads) (.int n_h_allDie) (.ref h_stepOrder) (.int n_h_stepMany) (.int n_h_stopped) (.int n_h_needNow) (.int n_h_neededNow) (.ref h_goal) (.ref h_order) (.long n_h_drawn) (.ref h_handNext), kI cI h_all 5760 f_h_all] sz)) (kk_Qi D (fun (r : Int32) (u : (Nat → Nat) × (Nat → Nat → Int32) × (Nat → Nat → Int64) × (Nat → Int32)) => True) (fun u => [kX h (.ref h_tape) (.int n_h_tapeSize) (.int 0) (.ref h_words) (.int n_h_fault) (.int n_h_faultPlace) (.int n_h_stop) (.int n_h_next) (.int n_h_kind) (.int n_h_which) (.int n_h_at) (.int n_h_got) (.int n_h_hands) (.int n_h_tolds) (.int n_h_steps) (.int n_h_handsRead) (.int n_h_toldsRead) (.int n_h_stepsRead) (.ref h_handName) (.ref h_toldKey) (.ref h_toldValue) (.ref h_stepWhat) (.ref h_stepHand) (.ref h_stepLow) (.ref h_stepHigh) (.ref h_stepValue) (.int n_h_gotKey) (.ref h_all) (.int n_h_bank) (.int n_h_snapshots) (.ref h_logHand) (.ref h_logWhat) (.ref h_logKey) (.ref h_logValue) (.int n_h_noGaps) (.int n_h_noReads) (.int n_h_allDie) (.ref h_stepOrder) (.int n_h_stepMany) (.int n_h_stopped) (.int n_h_needNow) (.int n_h_neededNow) (.ref h_goal) (.ref h_order) (.long n_h_drawn) (.ref h_handNext), kI cI h_all 5760 f_h_all]) (va_A [kX h (.ref h_tape) (.int n_h_tapeSize) (.int n_h_thrown) (.ref h_words) (.int n_h_fault) (.int n_h_faultPlace) (.int n_h_stop) (.int n_h_next) (.int n_h_kind) (.int n_h_which) (.int n_h_at) (.int n_h_got) (.int n_h_hands) (.int n_h_tolds) (.int n_h_steps) (.int n_h_handsRead) (.int n_h_toldsRead) (.int n_h_stepsRead) (.ref h_handName) (.ref h_toldKey) (.ref h_toldValue) (.ref h_stepWhat) (.ref h_stepHand) (.ref h_stepLow) (.ref h_stepHigh) (.ref h_stepValue) (.int n_h_gotKey) (.ref h_all) (.int n_h_bank) (.int n_h_snapshots) (.ref h_logHand) (.ref h_logWhat) (.ref h_logKey) (.ref h_logValue) (.int n_h_noGaps) (.int n_h_noReads) (.int n_h_allDie) (.ref h_stepOrder) (.int n_h_stepMany) (.int n_h_stopped) (.int n_h_needNow) (.int n_h_neededNow) (.ref h_goal) (.ref h_order) (.long n_h_drawn) (.ref h_handNext), kI cI h_all 5760 f_h_all] sz)) 0 0 (va_A [kX h (.ref h_tape) (.int n_h_tapeSize) (.int n_h_thrown) (.ref h_words) (.int n_h_fault) (.int n_h_faultPlace) (.int n_h_stop) (.int n_h_next) (.int n_h_kind) (.int n_h_which) (.int n_h_at) (.int n_h_got) (.int n_h_hands) (.int n_h_tolds) (.int n_h_steps) (.int n_h_handsRead) (.int n_h_toldsRead) (.int n_h_stepsRead) (.ref h_handName) (.ref h_toldKey) (.ref h_toldValue) (.ref h_stepWhat) (.ref h_stepHand) (.ref h_stepLow) (.ref h_stepHigh) (.ref h_stepValue) (.int n_h_gotKey) (.ref h_all) (.int n_h_bank) (.int n_h_snapshots) (.ref h_logHand) (.ref h_logWhat) (.ref h_logKey) (.ref h_logValue) (.int n_h_noGaps) (.int n_h_noReads) (.int n_h_allDie) (.ref h_stepOrder) (.int n_h_stepMany) (.int n_h_stopped) (.int n_h_needNow) (.int n_h_neededNow) (.ref h_goal) (.ref h_order) (.long n_h_drawn) (.ref h_handNext), kI cI h_all 5760 f_h_all] sz) := by
  refine kk_start (y := yX11_ratio) (maxL := 3) (av := [.ref h, .int p0, .int p1]) (Qc := fun A => kk_Qi D (fun (r : Int32) (u : (Nat → Nat) × (Nat → Nat → Int32) × (Nat → Nat → Int64) × (Nat → Int32)) => True) (fun u => [kX h (.ref h_tape) (.int n_h_tapeSize) (.int 0) (.ref h_words) (.int n_h_fault) (.int n_h_faultPlace) (.int n_h_stop) (.int n_h_next) (.int n_h_kind) (.int n_h_which) (.int n_h_at) (.int n_h_got) (.int n_h_hands) (.int n_h_tolds) (.int n_h_steps) (.int n_h_handsRead) (.int n_h_toldsRead) (.int n_h_stepsRead) (.ref h_handName) (.ref h_toldKey) (.ref h_toldValue) (.ref h_stepWhat) (.ref h_stepHand) (.ref h_stepLow) (.ref h_stepHigh) (.ref h_stepValue) (.int n_h_gotKey) (.ref h_all) (.int n_h_bank) (.int n_h_snapshots) (.ref h_logHand) (.ref h_logWhat) (.ref h_logKey) (.ref h_logValue) (.int n_h_noGaps) (.int n_h_noReads) (.int n_h_allDie) (.ref h_stepOrder) (.int n_h_stepMany) (.int n_h_stopped) (.int n_h_needNow) (.int n_h_neededNow) (.ref h_goal) (.ref h_order) (.long n_h_drawn) (.ref h_handNext), kI cI h_all 5760 f_h_all]) A) (by decide) (Nat.le_of_ble_eq_true rfl) ?_
  intro p e s m below meth c ls A hx hb hr hml hown hts hE hlocks hin hsz hP hD hA hS hl
  have hown : s.vm.findClass RX11 = some m.cls := hown
  have hl : lv_has ls 3 [(0, .ref h), (1, .int p0), (2, .int p1)] := hl
  refine lv_aload_n hx hb dX11_ratio_0 rfl (lv_at hl 0 rfl) ?_
  refine lv_iconst (v := 0) hx hb dX11_ratio_1 (by decide) ?_
  refine va_put (D := D) (ci := 10) (v := .int 0) (ty := .int) (C := RX11) (T := TX11) (N := 46) hx hb hts u_X11 tyX11 tyX11_ok nmX11 hown hE.1 hP hD hS 0 rfl rfl 2 (by decide) (hts _ w_1303) (fun _ h9 => h9) rfl (by decide +kernel) rfl rfl (Nat.le_of_ble_eq_true rfl) dX11_ratio_2 (fun H locs hP hD hS => ?_)
  obtain ⟨hP, hD⟩ : kPD D A [kX h (.ref h_tape) (.int n_h_tapeSize) (.int 0) (.ref h_words) (.int n_h_fault) (.int n_h_faultPlace) (.int n_h_stop) (.int n_h_next) (.int n_h_kind) (.int n_h_which) (.int n_h_at) (.int n_h_got) (.int n_h_hands) (.int n_h_tolds) (.int n_h_steps) (.int n_h_handsRead) (.int n_h_toldsRead) (.int n_h_stepsRead) (.ref h_handName) (.ref h_toldKey) (.ref h_toldValue) (.ref h_stepWhat) (.ref h_stepHand) (.ref h_stepLow) (.ref h_stepHigh) (.ref h_stepValue) (.int n_h_gotKey) (.ref h_all) (.int n_h_bank) (.int n_h_snapshots) (.ref h_logHand) (.ref h_logWhat) (.ref h_logKey) (.ref h_logValue) (.int n_h_noGaps) (.int n_h_noReads) (.int n_h_allDie) (.ref h_stepOrder) (.int n_h_stepMany) (.int n_h_stopped) (.int n_h_needNow) (.int n_h_neededNow) (.ref h_goal) (.ref h_order) (.long n_h_drawn) (.ref h_handNext), kI cI h_all 5760 f_h_all] H := ⟨hP, hD⟩
  refine lv_iload_n hx hb dX11_ratio_5 rfl (lv_at hl 1 rfl) ?_
  refine lv_if_lt (tgt := 29) hx hb dX11_ratio_6 (by decide) (fun c_1 => ?_) (fun c_1 => ?_)
  · have i_1 : p0.toInt < 0 := (ki_lt c_1)
    have b_2 : kr (-2147483648) (-1) p0 := kr_lt_l (kr_all p0) (kr_c 0 0 rfl) i_1 rfl
    refine lv_iconst (v := (-1)) hx hb dX11_ratio_29 (by decide) ?_
    exact kk_ret_i ((fun _ => 0), (fun i => [].getD i (fun _ => 0)), (fun i => [].getD i (fun _ => 0)), (fun i => [].getD i 0)) hx hb hr hlocks trivial (hP.sub [0, 1] rfl) (hD.sub [0, 1] (by decide +kernel) rfl) hS dX11_ratio_30 (Nat.le_of_ble_eq_true rfl) (Nat.le_of_ble_eq_true rfl)
  · have i_1 : 0 ≤ p0.toInt := (ki_nlt c_1)
    have b_3 : kr 0 2147483647 p0 := kr_le_r (kr_c 0 0 rfl) (kr_all p0) i_1 rfl
    refine lv_iload_n hx hb dX11_ratio_9 rfl (lv_at hl 2 rfl) ?_
    refine lv_if_lt (tgt := 29) hx hb dX11_ratio_10 (by decide) (fun c_4 => ?_) (fun c_4 => ?_)
    · have i_4 : p1.toInt < 0 := (ki_lt c_4)
      have b_5 : kr (-2147483648) (-1) p1 := kr_lt_l (kr_all p1) (kr_c 0 0 rfl) i_4 rfl
      refine lv_iconst (v := (-1)) hx hb dX11_ratio_29 (by decide) ?_
      exact kk_ret_i ((fun _ => 0), (fun i => [].getD i (fun _ => 0)), (fun i => [].getD i (fun _ => 0)), (fun i => [].getD i 0)) hx hb hr hlocks trivial (hP.sub [0, 1] rfl) (hD.sub [0, 1] (by decide +kernel) rfl) hS dX11_ratio_30 (Nat.le_of_ble_eq_true rfl) (Nat.le_of_ble_eq_true rfl)
    · have i_4 : 0 ≤ p1.toInt := (ki_nlt c_4)
      have b_6 : kr 0 2147483647 p1 := kr_le_r (kr_c 0 0 rfl) (kr_all p1) i_4 rfl
      refine lv_iload_n hx hb dX11_ratio_13 rfl (lv_at hl 1 rfl) ?_
      refine lv_aload_n hx hb dX11_ratio_14 rfl (lv_at hl 0 rfl) ?_
      refine kk_pi (kk_runV (w1 := [kX h (.ref h_tape) (.int n_h_tapeSize) (.int 0) (.ref h_words) (.int n_h_fault) (.int n_h_faultPlace) (.int n_h_stop) (.int n_h_next) (.int n_h_kind) (.int n_h_which) (.int n_h_at) (.int n_h_got) (.int n_h_hands) (.int n_h_tolds) (.int n_h_steps) (.int n_h_handsRead) (.int n_h_toldsRead) (.int n_h_stepsRead) (.ref h_handName) (.ref h_toldKey) (.ref h_toldValue) (.ref h_stepWhat) (.ref h_stepHand) (.ref h_stepLow) (.ref h_stepHigh) (.ref h_stepValue) (.int n_h_gotKey) (.ref h_all) (.int n_h_bank) (.int n_h_snapshots) (.ref h_logHand) (.ref h_logWhat) (.ref h_logKey) (.ref h_logValue) (.int n_h_noGaps) (.int n_h_noReads) (.int n_h_allDie) (.ref h_stepOrder) (.int n_h_stepMany) (.int n_h_stopped) (.int n_h_needNow) (.int n_h_neededNow) (.ref h_goal) (.ref h_order) (.long n_h_drawn) (.ref h_handNext), kI cI h_all 5760 f_h_all]) (As := []) (rest := [.int p0]) hx hb hml hown hts hE (c_X11_many l D cB cI cJ cD h h_all h_tape h_words h_handName h_toldKey h_toldValue h_stepWhat h_stepHand h_stepLow h_stepHigh h_stepValue h_logHand h_logWhat h_logKey h_logValue h_stepOrder h_goal h_order h_handNext n_h_tapeSize 0 n_h_fault n_h_faultPlace n_h_stop n_h_next n_h_kind n_h_which n_h_at n_h_got n_h_hands n_h_tolds n_h_steps n_h_handsRead n_h_toldsRead n_h_stepsRead n_h_gotKey n_h_bank n_h_snapshots n_h_noGaps n_h_noReads n_h_allDie n_h_stepMany n_h_stopped n_h_needNow n_h_neededNow n_h_drawn f_h_all K N M H.size b_h_tapeSize b_h_stop b_h_next b_h_at b_h_hands b_h_tolds b_h_steps b_h_handsRead b_h_toldsRead b_h_stepsRead b_h_bank b_h_snapshots b_h_noGaps b_h_noReads b_h_allDie b_h_stepMany hG (by have := hK0; show 2139095040 ≤ K; omega) (by have := hK; have := hN; have := hM; show K ≤ 2147000000; omega) (by have := hK; have := hN; have := hM; show N ≤ 599; omega) (by have := hK; have := hN; have := hM; show M ≤ 99000000; omega)) m_X11_many w_1277 ⟨rfl, rfl, Nat.le_of_ble_eq_true rfl, Nat.le_of_ble_eq_true rfl⟩ (hP.sub [0, 1] rfl) (hD.sub [0, 1] (by decide +kernel) rfl) 0 10 rfl rfl rfl hl.1 (Nat.le_of_ble_eq_true rfl) dX11_ratio_15 ⟨Nat.le_of_ble_eq_true rfl, Nat.le_of_ble_eq_true rfl⟩) (fun r_7 p_7 => ?_)
      have b_7 : kr (-100000000) 24 r_7 := p_7.1
      have g_8 : r_7 = f_h_all (kB n_h_bank + Int32.toNatClampNeg 0) := p_7.2
      refine lv_icmp_ge (tgt := 29) hx hb dX11_ratio_18 (by decide) (fun c_9 => ?_) (fun c_9 => ?_)
      · have i_9 : r_7.toInt ≤ p0.toInt := (ki_le c_9)
        refine lv_iconst (v := (-1)) hx hb dX11_ratio_29 (by decide) ?_
        exact kk_ret_i ((fun _ => 0), (fun i => [].getD i (fun _ => 0)), (fun i => [].getD i (fun _ => 0)), (fun i => [].getD i 0)) hx hb hr hlocks trivial (hP.sub [0, 1] rfl) (hD.sub [0, 1] (by decide +kernel) rfl) hS dX11_ratio_30 (Nat.le_of_ble_eq_true rfl) (Nat.le_of_ble_eq_true rfl)
      · have i_9 : p0.toInt < r_7.toInt := (ki_nle c_9)
        have b_10 : kr 0 23 p0 := kr_lt_l b_3 b_7 i_9 rfl
        have b_11 : kr 1 24 r_7 := kr_lt_r b_3 b_7 i_9 rfl
        refine lv_iload_n hx hb dX11_ratio_21 rfl (lv_at hl 2 rfl) ?_
        refine lv_aload_n hx hb dX11_ratio_22 rfl (lv_at hl 0 rfl) ?_
        refine kk_pi (kk_runV (w1 := [kX h (.ref h_tape) (.int n_h_tapeSize) (.int 0) (.ref h_words) (.int n_h_fault) (.int n_h_faultPlace) (.int n_h_stop) (.int n_h_next) (.int n_h_kind) (.int n_h_which) (.int n_h_at) (.int n_h_got) (.int n_h_hands) (.int n_h_tolds) (.int n_h_steps) (.int n_h_handsRead) (.int n_h_toldsRead) (.int n_h_stepsRead) (.ref h_handName) (.ref h_toldKey) (.ref h_toldValue) (.ref h_stepWhat) (.ref h_stepHand) (.ref h_stepLow) (.ref h_stepHigh) (.ref h_stepValue) (.int n_h_gotKey) (.ref h_all) (.int n_h_bank) (.int n_h_snapshots) (.ref h_logHand) (.ref h_logWhat) (.ref h_logKey) (.ref h_logValue) (.int n_h_noGaps) (.int n_h_noReads) (.int n_h_allDie) (.ref h_stepOrder) (.int n_h_stepMany) (.int n_h_stopped) (.int n_h_needNow) (.int n_h_neededNow) (.ref h_goal) (.ref h_order) (.long n_h_drawn) (.ref h_handNext), kI cI h_all 5760 f_h_all]) (As := []) (rest := [.int p1]) hx hb hml hown hts hE (c_X11_many l D cB cI cJ cD h h_all h_tape h_words h_handName h_toldKey h_toldValue h_stepWhat h_stepHand h_stepLow h_stepHigh h_stepValue h_logHand h_logWhat h_logKey h_logValue h_stepOrder h_goal h_order h_handNext n_h_tapeSize 0 n_h_fault n_h_faultPlace n_h_stop n_h_next n_h_kind n_h_which n_h_at n_h_got n_h_hands n_h_tolds n_h_steps n_h_handsRead n_h_toldsRead n_h_stepsRead n_h_gotKey n_h_bank n_h_snapshots n_h_noGaps n_h_noReads n_h_allDie n_h_stepMany n_h_stopped n_h_needNow n_h_neededNow n_h_drawn f_h_all K N M H.size b_h_tapeSize b_h_stop b_h_next b_h_at b_h_hands b_h_tolds b_h_steps b_h_handsRead b_h_toldsRead b_h_stepsRead b_h_bank b_h_snapshots b_h_noGaps b_h_noReads b_h_allDie b_h_stepMany hG (by have := hK0; show 2139095040 ≤ K; omega) (by have := hK; have := hN; have := hM; show K ≤ 2147000000; omega) (by have := hK; have := hN; have := hM; show N ≤ 599; omega) (by have := hK; have := hN; have := hM; show M ≤ 99000000; omega)) m_X11_many w_1277 ⟨rfl, rfl, Nat.le_of_ble_eq_true rfl, Nat.le_of_ble_eq_true rfl⟩ (hP.sub [0, 1] rfl) (hD.sub [0, 1] (by decide +kernel) rfl) 0 10 rfl rfl rfl hl.1 (Nat.le_of_ble_eq_true rfl) dX11_ratio_23 ⟨Nat.le_of_ble_eq_true rfl, Nat.le_of_ble_eq_true rfl⟩) (fun r_12 p_12 => ?_)
        have b_12 : kr (-100000000) 24 r_12 := p_12.1
        have g_13 : r_12 = f_h_all (kB n_h_bank + Int32.toNatClampNeg 0) := p_12.2
        refine lv_icmp_lt (tgt := 31) hx hb dX11_ratio_26 (by decide) (fun c_14 => ?_) (fun c_14 => ?_)
        · have i_14 : p1.toInt < r_12.toInt := (ki_lt c_14)
          have b_15 : kr 0 23 p1 := kr_lt_l b_6 b_12 i_14 rfl
          have b_16 : kr 1 24 r_12 := kr_lt_r b_6 b_12 i_14 rfl
          refine lv_aload_n hx hb dX11_ratio_31 rfl (lv_at hl 0 rfl) ?_
          refine lv_iconst (v := 1) hx hb dX11_ratio_32 (by decide) ?_
          refine lv_iload_n hx hb dX11_ratio_33 rfl (lv_at hl 2 rfl) ?_
          refine lv_iadd hx hb dX11_ratio_34 ?_
          refine lv_topi (fun v_17 e_17 => ?_)
          have t_17 : v_17.toInt = 1 + p1.toInt := kt_add e_17 (kr_c 1 1 rfl) b_15 rfl
          have b_17 : kr 1 24 v_17 := kr_add (x := 1) (y := p1) t_17 (kr_c 1 1 rfl) b_15 rfl
          refine kk_pi (kk_runV (w1 := [kX h (.ref h_tape) (.int n_h_tapeSize) (.int 0) (.ref h_words) (.int n_h_fault) (.int n_h_faultPlace) (.int n_h_stop) (.int n_h_next) (.int n_h_kind) (.int n_h_which) (.int n_h_at) (.int n_h_got) (.int n_h_hands) (.int n_h_tolds) (.int n_h_steps) (.int n_h_handsRead) (.int n_h_toldsRead) (.int n_h_stepsRead) (.ref h_handName) (.ref h_toldKey) (.ref h_toldValue) (.ref h_stepWhat) (.ref h_stepHand) (.ref h_stepLow) (.ref h_stepHigh) (.ref h_stepValue) (.int n_h_gotKey) (.ref h_all) (.int n_h_bank) (.int n_h_snapshots) (.ref h_logHand) (.ref h_logWhat) (.ref h_logKey) (.ref h_logValue) (.int n_h_noGaps) (.int n_h_noReads) (.int n_h_allDie) (.ref h_stepOrder) (.int n_h_stepMany) (.int n_h_stopped) (.int n_h_needNow) (.int n_h_neededNow) (.ref h_goal) (.ref h_order) (.long n_h_drawn) (.ref h_handNext), kI cI h_all 5760 f_h_all]) (As := [.int v_17]) (rest := []) hx hb hml hown hts hE (c_X11_of l D cB cI cJ cD h h_all h_tape h_words h_handName h_toldKey h_toldValue h_stepWhat h_stepHand h_stepLow h_stepHigh h_stepValue h_logHand h_logWhat h_logKey h_logValue h_stepOrder h_goal h_order h_handNext n_h_tapeSize 0 n_h_fault n_h_faultPlace n_h_stop n_h_next n_h_kind n_h_which n_h_at n_h_got n_h_hands n_h_tolds n_h_steps n_h_handsRead n_h_toldsRead n_h_stepsRead n_h_gotKey n_h_bank n_h_snapshots n_h_noGaps n_h_noReads n_h_allDie n_h_stepMany n_h_stopped n_h_needNow n_h_neededNow n_h_drawn f_h_all v_17 H.size b_h_tapeSize b_h_stop b_h_next b_h_at b_h_hands b_h_tolds b_h_steps b_h_handsRead b_h_toldsRead b_h_stepsRead b_h_bank b_h_snapshots b_h_noGaps b_h_noReads b_h_allDie b_h_stepMany (kr_w b_17 rfl)) m_X11_of w_1281 ⟨rfl, rfl, Nat.le_of_ble_eq_true rfl, Nat.le_of_ble_eq_true rfl⟩ (hP.sub [0, 1] rfl) (hD.sub [0, 1] (by decide +kernel) rfl) 0 10 rfl rfl rfl hl.1 (Nat.le_of_ble_eq_true rfl) dX11_ratio_35 ⟨Nat.le_of_ble_eq_true rfl, Nat.le_of_ble_eq_true rfl⟩) (fun r_18 p_18 => ?_)
          have g_19 : r_18 = f_h_all (kB n_h_bank + Int32.toNatClampNeg v_17) := p_18
          have k_20 : kr 0 K r_18 := kG_rbits hG b_17 g_19 rfl
          have b_18 : kr 0 2147000000 r_18 := kr_K k_20 (by have := hK; have := hN; have := hM; omega)
          refine lv_if_ne (tgt := 46) hx hb dX11_ratio_38 (by decide) (fun c_21 => ?_) (fun c_21 => ?_)
          · have b_22 : kr 1 2147000000 r_18 := kr_ne_lo b_18 c_21 rfl
            refine lv_aload_n hx hb dX11_ratio_46 rfl (lv_at hl 0 rfl) ?_
            refine lv_iconst (v := 1) hx hb dX11_ratio_47 (by decide) ?_
            refine lv_iload_n hx hb dX11_ratio_48 rfl (lv_at hl 1 rfl) ?_
            refine lv_iadd hx hb dX11_ratio_49 ?_
            refine lv_topi (fun v_23 e_23 => ?_)
            have t_23 : v_23.toInt = 1 + p0.toInt := kt_add e_23 (kr_c 1 1 rfl) b_10 rfl
            have b_23 : kr 1 24 v_23 := kr_add (x := 1) (y := p0) t_23 (kr_c 1 1 rfl) b_10 rfl
            refine kk_pi (kk_runV (w1 := [kX h (.ref h_tape) (.int n_h_tapeSize) (.int 0) (.ref h_words) (.int n_h_fault) (.int n_h_faultPlace) (.int n_h_stop) (.int n_h_next) (.int n_h_kind) (.int n_h_which) (.int n_h_at) (.int n_h_got) (.int n_h_hands) (.int n_h_tolds) (.int n_h_steps) (.int n_h_handsRead) (.int n_h_toldsRead) (.int n_h_stepsRead) (.ref h_handName) (.ref h_toldKey) (.ref h_toldValue) (.ref h_stepWhat) (.ref h_stepHand) (.ref h_stepLow) (.ref h_stepHigh) (.ref h_stepValue) (.int n_h_gotKey) (.ref h_all) (.int n_h_bank) (.int n_h_snapshots) (.ref h_logHand) (.ref h_logWhat) (.ref h_logKey) (.ref h_logValue) (.int n_h_noGaps) (.int n_h_noReads) (.int n_h_allDie) (.ref h_stepOrder) (.int n_h_stepMany) (.int n_h_stopped) (.int n_h_needNow) (.int n_h_neededNow) (.ref h_goal) (.ref h_order) (.long n_h_drawn) (.ref h_handNext), kI cI h_all 5760 f_h_all]) (As := [.int v_23]) (rest := []) hx hb hml hown hts hE (c_X11_of l D cB cI cJ cD h h_all h_tape h_words h_handName h_toldKey h_toldValue h_stepWhat h_stepHand h_stepLow h_stepHigh h_stepValue h_logHand h_logWhat h_logKey h_logValue h_stepOrder h_goal h_order h_handNext n_h_tapeSize 0 n_h_fault n_h_faultPlace n_h_stop n_h_next n_h_kind n_h_which n_h_at n_h_got n_h_hands n_h_tolds n_h_steps n_h_handsRead n_h_toldsRead n_h_stepsRead n_h_gotKey n_h_bank n_h_snapshots n_h_noGaps n_h_noReads n_h_allDie n_h_stepMany n_h_stopped n_h_needNow n_h_neededNow n_h_drawn f_h_all v_23 H.size b_h_tapeSize b_h_stop b_h_next b_h_at b_h_hands b_h_tolds b_h_steps b_h_handsRead b_h_toldsRead b_h_stepsRead b_h_bank b_h_snapshots b_h_noGaps b_h_noReads b_h_allDie b_h_stepMany (kr_w b_23 rfl)) m_X11_of w_1281 ⟨rfl, rfl, Nat.le_of_ble_eq_true rfl, Nat.le_of_ble_eq_true rfl⟩ (hP.sub [0, 1] rfl) (hD.sub [0, 1] (by decide +kernel) rfl) 0 10 rfl rfl rfl hl.1 (Nat.le_of_ble_eq_true rfl) dX11_ratio_50 ⟨Nat.le_of_ble_eq_true rfl, Nat.le_of_ble_eq_true rfl⟩) (fun r_24 p_24 => ?_)
            have g_25 : r_24 = f_h_all (kB n_h_bank + Int32.toNatClampNeg v_23) := p_24
            have k_26 : kr 0 K r_24 := kG_rbits hG b_23 g_25 rfl
            have b_24 : kr 0 2147000000 r_24 := kr_K k_26 (by have := hK; have := hN; have := hM; omega)
            refine lv_aload_n hx hb dX11_ratio_53 rfl (lv_at hl 0 rfl) ?_
            refine lv_iconst (v := 1) hx hb dX11_ratio_54 (by decide) ?_
            refine lv_iload_n hx hb dX11_ratio_55 rfl (lv_at hl 2 rfl) ?_
            refine lv_iadd hx hb dX11_ratio_56 ?_
            refine lv_topi (fun v_27 e_27 => ?_)
            have t_27 : v_27.toInt = 1 + p1.toInt := kt_add e_27 (kr_c 1 1 rfl) b_15 rfl
            have b_27 : kr 1 24 v_27 := kr_add (x := 1) (y := p1) t_27 (kr_c 1 1 rfl) b_15 rfl
            refine kk_pi (kk_runV (w1 := [kX h (.ref h_tape) (.int n_h_tapeSize) (.int 0) (.ref h_words) (.int n_h_fault) (.int n_h_faultPlace) (.int n_h_stop) (.int n_h_next) (.int n_h_kind) (.int n_h_which) (.int n_h_at) (.int n_h_got) (.int n_h_hands) (.int n_h_tolds) (.int n_h_steps) (.int n_h_handsRead) (.int n_h_toldsRead) (.int n_h_stepsRead) (.ref h_handName) (.ref h_toldKey) (.ref h_toldValue) (.ref h_stepWhat) (.ref h_stepHand) (.ref h_stepLow) (.ref h_stepHigh) (.ref h_stepValue) (.int n_h_gotKey) (.ref h_all) (.int n_h_bank) (.int n_h_snapshots) (.ref h_logHand) (.ref h_logWhat) (.ref h_logKey) (.ref h_logValue) (.int n_h_noGaps) (.int n_h_noReads) (.int n_h_allDie) (.ref h_stepOrder) (.int n_h_stepMany) (.int n_h_stopped) (.int n_h_needNow) (.int n_h_neededNow) (.ref h_goal) (.ref h_order) (.long n_h_drawn) (.ref h_handNext), kI cI h_all 5760 f_h_all]) (As := [.int v_27]) (rest := [.int r_24]) hx hb hml hown hts hE (c_X11_of l D cB cI cJ cD h h_all h_tape h_words h_handName h_toldKey h_toldValue h_stepWhat h_stepHand h_stepLow h_stepHigh h_stepValue h_logHand h_logWhat h_logKey h_logValue h_stepOrder h_goal h_order h_handNext n_h_tapeSize 0 n_h_fault n_h_faultPlace n_h_stop n_h_next n_h_kind n_h_which n_h_at n_h_got n_h_hands n_h_tolds n_h_steps n_h_handsRead n_h_toldsRead n_h_stepsRead n_h_gotKey n_h_bank n_h_snapshots n_h_noGaps n_h_noReads n_h_allDie n_h_stepMany n_h_stopped n_h_needNow n_h_neededNow n_h_drawn f_h_all v_27 H.size b_h_tapeSize b_h_stop b_h_next b_h_at b_h_hands b_h_tolds b_h_steps b_h_handsRead b_h_toldsRead b_h_stepsRead b_h_bank b_h_snapshots b_h_noGaps b_h_noReads b_h_allDie b_h_stepMany (kr_w b_27 rfl)) m_X11_of w_1281 ⟨rfl, rfl, Nat.le_of_ble_eq_true rfl, Nat.le_of_ble_eq_true rfl⟩ (hP.sub [0, 1] rfl) (hD.sub [0, 1] (by decide +kernel) rfl) 0 10 rfl rfl rfl hl.1 (Nat.le_of_ble_eq_true rfl) dX11_ratio_57 ⟨Nat.le_of_ble_eq_true rfl, Nat.le_of_ble_eq_true rfl⟩) (fun r_28 p_28 => ?_)
            have g_29 : r_28 = f_h_all (kB n_h_bank + Int32.toNatClampNeg v_27) := p_28
            have k_30 : kr 0 K r_28 := kG_rbits hG b_27 g_29 rfl
            have b_28 : kr 0 2147000000 r_28 := kr_K k_30 (by have := hK; have := hN; have := hM; omega)
            have b_31 : kr 1 2147000000 r_28 := (by have q := kof_eq t_17 t_27 g_19 g_29; rw [q]; exact kr_ne_lo (a' := 1) (b' := 2147000000) b_18 c_21 rfl)
            refine kk_pi (kk_runS (w1 := []) (As := [.int r_24, .int r_28]) (rest := []) hx hb hml hown hts hE (c_X11_divided_f l D cB cI cJ cD r_24 r_28 H.size (kr_w b_24 rfl) (Or.inr b_31.1)) m_X11_divided w_1515 ⟨rfl, rfl, Nat.le_of_ble_eq_true rfl, Nat.le_of_ble_eq_true rfl⟩ (hP.sub [] rfl) (hD.sub [] (by decide +kernel) rfl) rfl hl.1 (Nat.le_of_ble_eq_true rfl) dX11_ratio_60 ⟨Nat.le_of_ble_eq_true rfl, Nat.le_of_ble_eq_true rfl⟩) (fun r_32 p_32 => ?_)
            exact kk_ret_i ((fun _ => 0), (fun i => [].getD i (fun _ => 0)), (fun i => [].getD i (fun _ => 0)), (fun i => [].getD i 0)) hx hb hr hlocks trivial (hP.sub [0, 1] rfl) (hD.sub [0, 1] (by decide +kernel) rfl) hS dX11_ratio_63 (Nat.le_of_ble_eq_true rfl) (Nat.le_of_ble_eq_true rfl)
          · have b_33 : kr 0 0 r_18 := kr_eq_l b_18 (kr_c 0 0 rfl) c_21 rfl
            refine lv_bipush (v := (-2)) hx hb dX11_ratio_41 (by decide) ?_
            refine lv_goto (tgt := 63) hx hb dX11_ratio_43 (by decide) ?_
            exact kk_ret_i ((fun _ => 0), (fun i => [].getD i (fun _ => 0)), (fun i => [].getD i (fun _ => 0)), (fun i => [].getD i 0)) hx hb hr hlocks trivial (hP.sub [0, 1] rfl) (hD.sub [0, 1] (by decide +kernel) rfl) hS dX11_ratio_63 (Nat.le_of_ble_eq_true rfl) (Nat.le_of_ble_eq_true rfl)
        · have i_14 : r_12.toInt ≤ p1.toInt := (ki_nlt c_14)
          refine lv_iconst (v := (-1)) hx hb dX11_ratio_29 (by decide) ?_
          exact kk_ret_i ((fun _ => 0), (fun i => [].getD i (fun _ => 0)), (fun i => [].getD i (fun _ => 0)), (fun i => [].getD i 0)) hx hb hr hlocks trivial (hP.sub [0, 1] rfl) (hD.sub [0, 1] (by decide +kernel) rfl) hS dX11_ratio_30 (Nat.le_of_ble_eq_true rfl) (Nat.le_of_ble_eq_true rfl)
