set_option maxHeartbeats 4000000 in
set_option maxRecDepth 100000 in
theorem z_packedFloat (l : Launch) (D : va_G) (cB cI cJ cD : ClassId) (N : Nat) (e0 : Int) (sz : Nat) (hN0 : 0 < N) (hN : N < 2 ^ 41) (he1 : -90 ≤ e0) (he2 : e0 ≤ 60) : Met l yX11_packedFloat (kk_W yX11_packedFloat cX11_packedFloat 11 (some .int)) ({ frames := 0, cells := 0, slots := 0, locals := 0 }) (va_Pc [.long (lN N), .int (Int32.ofInt e0)] (kk_pre D cB cI cJ cD [] sz)) (vp_Si (fun r => r = pF N e0)) 0 0 (fun _ => False) := by
  refine kk_pstart (y := yX11_packedFloat) (maxL := 11) (av := [.long (lN N), .int (Int32.ofInt e0)]) (by decide) (Nat.le_of_ble_eq_true rfl) ?_
  intro p e s m below meth c ls hx hb hr hml hown hts hE hlocks hsz hP hD hl
  have hown : s.vm.findClass RX11 = some m.cls := hown
  have hl : lv_has ls 11 [(0, .long (lN N)), (2, .int (Int32.ofInt e0))] := hl
  -- the number told: significand and exponent
  have segE : ∀ (mm : Nat) (y : Int) (ls : Array Slot), 2 ^ 23 ≤ mm → mm < 2 ^ 24 → -149 ≤ e0 + y → e0 + y ≤ 104 → -200 ≤ y → y ≤ 200 → pF N e0 = (FP.Core.of32 (.fin false mm (e0 + y))).toInt32 → lv_has ls 11 [(2, .int (Int32.ofInt e0)), (4, .long (lN mm)), (6, .int (Int32.ofInt y))] → W p l e ({ frames := 0, cells := 0, slots := 0, locals := 0 }) s m ([.long (lN N), .int (Int32.ofInt e0)] : List Value).toArray below meth c s.heap [] 0 0 (MQ below (vp_Si (fun r => r = pF N e0)) ([.long (lN N), .int (Int32.ofInt e0)] : List Value).toArray s 0 0 (fun _ => False)) (F0 m 151 ls []) := by
    intro mm y ls h1 h2 h3 h4 h5 h6 hp hl
    refine lv_lload hx hb dX11_packedFloat_151 (lv_at hl 1 rfl) ?_
    refine lv_ldc2 (v := lN 8388608) hx hb hown (hts _ w_1513) dX11_packedFloat_153 ?_
    refine W.lcmp hx hb dX11_packedFloat_156 ?_
    refine lv_if_ge (tgt := 164) hx hb dX11_packedFloat_157 (by decide) (fun _ => ?_) (fun h => absurd (by rcases lc_cases mm 8388608 (by omega) (by decide) with q | q | q <;> rw [q.2] <;> first | decide | (exact absurd q.1 (by omega))) h)
    refine lv_iload_n hx hb dX11_packedFloat_164 rfl (lv_at hl 0 rfl) ?_
    refine lv_iload hx hb dX11_packedFloat_165 (lv_at hl 2 rfl) ?_
    refine lv_iadd hx hb dX11_packedFloat_167 ?_
    rw [oi_add]
    refine lv_bipush (v := 104) hx hb dX11_packedFloat_168 (by decide) ?_
    refine lv_icmp_le (tgt := 178) hx hb dX11_packedFloat_170 (by decide) (fun _ => ?_) (fun h => absurd (by rw [kk_le, oi_toInt (by omega) (by omega)]; simp only [Int32.reduceToInt]; omega) h)
    refine lv_iload_n hx hb dX11_packedFloat_178 rfl (lv_at hl 0 rfl) ?_
    refine lv_iload hx hb dX11_packedFloat_179 (lv_at hl 2 rfl) ?_
    refine lv_iadd hx hb dX11_packedFloat_181 ?_
    rw [oi_add]
    refine lv_sipush (v := 150) hx hb dX11_packedFloat_182 (by decide) ?_
    refine lv_iadd hx hb dX11_packedFloat_185 ?_
    rw [show (150 : Int32) = Int32.ofInt 150 from rfl, oi_add, oi_nI (z := e0 + y + 150) (n := (e0 + y + 150).toNat) (by omega)]
    refine lv_bipush (v := 23) hx hb dX11_packedFloat_186 (by decide) ?_
    refine lv_ishl hx hb dX11_packedFloat_188 ?_
    refine lv_lload hx hb dX11_packedFloat_189 (lv_at hl 1 rfl) ?_
    refine lv_ldc2 (v := lN 8388608) hx hb hown (hts _ w_1513) dX11_packedFloat_191 ?_
    refine lv_lsub hx hb dX11_packedFloat_194 ?_
    rw [lN_sub h1]
    refine lv_l2i hx hb dX11_packedFloat_195 (lN_i _) ?_
    refine lv_ior hx hb dX11_packedFloat_196 ?_
    refine kk_pret_i hx hb hr hlocks ?_ dX11_packedFloat_197
    rw [hp, fin_join h1 h2 h3 h4]
  -- behind the rounding: a carry
  have segD : ∀ (mm : Nat) (y : Int) (ls : Array Slot), 2 ^ 23 ≤ mm → mm ≤ 2 ^ 24 → -149 ≤ e0 + y → e0 + y ≤ 103 → -200 ≤ y → y ≤ 190 → pF N e0 = (FP.Core.of32 (FP.Core.settle FP.Core.b32 false mm (e0 + y))).toInt32 → lv_has ls 11 [(2, .int (Int32.ofInt e0)), (4, .long (lN mm)), (6, .int (Int32.ofInt y))] → W p l e ({ frames := 0, cells := 0, slots := 0, locals := 0 }) s m ([.long (lN N), .int (Int32.ofInt e0)] : List Value).toArray below meth c s.heap [] 0 0 (MQ below (vp_Si (fun r => r = pF N e0)) ([.long (lN N), .int (Int32.ofInt e0)] : List Value).toArray s 0 0 (fun _ => False)) (F0 m 134 ls []) := by
    intro mm y ls h1 h2 h3 h4 h5 h6 hp hl
    unfold FP.Core.settle FP.Core.bound at hp
    rw [q_b32.2.2.2, q_b32.2.1, q_b32.2.2.1] at hp
    refine lv_lload hx hb dX11_packedFloat_134 (lv_at hl 1 rfl) ?_
    refine lv_ldc2 (v := lN 16777216) hx hb hown (hts _ w_1512) dX11_packedFloat_136 ?_
    refine W.lcmp hx hb dX11_packedFloat_139 ?_
    rcases Nat.lt_or_ge mm (2 ^ 24) with hlt | hge
    · refine lv_if_ne (tgt := 151) hx hb dX11_packedFloat_140 (by decide) (fun _ => ?_) (fun h => absurd h (by rcases lc_cases mm 16777216 (by omega) (by decide) with q | q | q <;> rw [q.2] <;> first | decide | (exact absurd q.1 (by omega))))
      rw [if_pos hlt, if_pos (by omega)] at hp
      exact segE mm y ls h1 hlt h3 (by omega) h5 (by omega) hp hl
    · obtain rfl : mm = 2 ^ 24 := by omega
      refine lv_if_ne (tgt := 151) hx hb dX11_packedFloat_140 (by decide) (fun h => absurd (by rcases lc_cases (2 ^ 24) 16777216 (by decide) (by decide) with q | q | q <;> first | exact q.2 | (exact absurd q.1 (by decide))) h) (fun _ => ?_)
      refine lv_ldc2 (v := lN 8388608) hx hb hown (hts _ w_1513) dX11_packedFloat_143 ?_
      refine lv_lstore (lv' := [(4, .long (lN 8388608)), (2, .int (Int32.ofInt e0)), (6, .int (Int32.ofInt y))]) hx hb dX11_packedFloat_146 hl (by decide) rfl (fun ls hl => ?_)
      refine lv_iinc (v := Int32.ofInt (y + 1)) (lv' := [(6, .int (Int32.ofInt (y + 1))), (4, .long (lN 8388608)), (2, .int (Int32.ofInt e0))]) hx hb dX11_packedFloat_148 hl (k := 2) rfl (oi_add y 1) (by decide) rfl (fun ls hl => ?_)
      rw [if_neg (by omega), if_pos (by omega)] at hp
      refine segE 8388608 (y + 1) ls (by decide) (by decide) (by omega) (by omega) (by omega) (by omega) ?_ (lv_sub hl [2, 1, 0] rfl)
      rw [hp, Int.add_assoc]
  obtain ⟨S, hS⟩ : ∃ S : Nat, S = N.log2 := ⟨_, rfl⟩
  have a1 : 2 ^ S ≤ N := by rw [hS]; exact Nat.log2_self_le (by omega)
  have a2 : N < 2 ^ (S + 1) := by rw [hS]; exact Nat.lt_log2_self
  have hS40 : S ≤ 40 := by
    refine Nat.le_of_not_lt fun h5 => ?_
    have : 2 ^ 41 ≤ 2 ^ S := Nat.pow_le_pow_right (by decide) h5
    omega
  have hrr : FP.Core.roundRatio FP.Core.b32 false N 1 e0 = FP.Core.settle FP.Core.b32 false (FP.Core.nearest (N * 2 ^ (23 - (S : Int)).toNat) (1 * 2 ^ ((S : Int) - 23).toNat)) (e0 + ((S : Int) - 23)) := by
    rw [rr_at hN0 (by rw [lead1 hN0]; omega), lead1 hN0, ← hS]
    congr 1
    omega
  -- behind the size: locals 0 n, 2 e, 3 size
  have segA : ∀ (ls : Array Slot), lv_has ls 11 [(3, .int (nI (S + 1))), (0, .long (lN N)), (2, .int (Int32.ofInt e0))] → W p l e ({ frames := 0, cells := 0, slots := 0, locals := 0 }) s m ([.long (lN N), .int (Int32.ofInt e0)] : List Value).toArray below meth c s.heap [] 0 0 (MQ below (vp_Si (fun r => r = pF N e0)) ([.long (lN N), .int (Int32.ofInt e0)] : List Value).toArray s 0 0 (fun _ => False)) (F0 m 30 ls []) := by
    intro ls hl
    refine lv_lload_n hx hb dX11_packedFloat_30 rfl (lv_at hl 1 rfl) ?_
    refine lv_lstore (lv' := [(4, .long (lN N)), (3, .int (nI (S + 1))), (0, .long (lN N)), (2, .int (Int32.ofInt e0))]) hx hb dX11_packedFloat_31 hl (by decide) rfl (fun ls hl => ?_)
    refine lv_iload_n hx hb dX11_packedFloat_33 rfl (lv_at hl 1 rfl) ?_
    refine lv_bipush (v := 24) hx hb dX11_packedFloat_34 (by decide) ?_
    refine lv_isub hx hb dX11_packedFloat_36 ?_
    have ey : nI (S + 1) - 24 = Int32.ofInt ((S : Int) - 23) := by
      rw [show nI (S + 1) = Int32.ofInt ((S : Int) + 1) from rfl, show (24 : Int32) = Int32.ofInt 24 from rfl, ← Int32.ofInt_sub]
      congr 1
      omega
    rw [ey]
    refine lv_istore (lv' := [(6, .int (Int32.ofInt ((S : Int) - 23))), (4, .long (lN N)), (3, .int (nI (S + 1))), (0, .long (lN N)), (2, .int (Int32.ofInt e0))]) hx hb dX11_packedFloat_37 hl (by decide) rfl (fun ls hl => ?_)
    refine lv_iload_n hx hb dX11_packedFloat_39 rfl (lv_at hl 4 rfl) ?_
    refine lv_iload hx hb dX11_packedFloat_40 (lv_at hl 0 rfl) ?_
    refine lv_iadd hx hb dX11_packedFloat_42 ?_
    rw [oi_add]
    refine lv_sipush (v := -149) hx hb dX11_packedFloat_43 (by decide) ?_
    refine lv_icmp_ge (tgt := 56) hx hb dX11_packedFloat_46 (by decide) (fun _ => ?_) (fun h => absurd (show (-149 : Int32) ≤ _ by rw [kk_le, oi_toInt (by omega) (by omega)]; simp only [Int32.reduceToInt]; omega) h)
    refine lv_iload hx hb dX11_packedFloat_56 (lv_at hl 0 rfl) ?_
    refine lv_bipush (v := 62) hx hb dX11_packedFloat_58 (by decide) ?_
    refine lv_icmp_le (tgt := 65) hx hb dX11_packedFloat_60 (by decide) (fun _ => ?_) (fun h => absurd (by rw [kk_le, oi_toInt (by omega) (by omega)]; simp only [Int32.reduceToInt]; omega) h)
    refine lv_iload hx hb dX11_packedFloat_65 (lv_at hl 0 rfl) ?_
    rcases Nat.lt_or_ge 23 S with hb2 | hb2
    · -- digits go
      refine lv_if_gt (tgt := 80) hx hb dX11_packedFloat_67 (by decide) (fun _ => ?_) (fun h => absurd (show (0 : Int32) < _ by rw [kk_lt, oi_toInt (by omega) (by omega)]; simp only [Int32.reduceToInt]; omega) h)
      obtain ⟨k, hk⟩ : ∃ k : Nat, k = S - 23 := ⟨_, rfl⟩
      have ek : Int32.ofInt ((S : Int) - 23) = nI k := oi_nI (by omega)
      have hnear : FP.Core.nearest (N * 2 ^ (23 - (S : Int)).toNat) (1 * 2 ^ ((S : Int) - 23).toNat) = FP.Core.nearest N (2 ^ k) := by
        rw [show (23 - (S : Int)).toNat = 0 by omega, show ((S : Int) - 23).toNat = k by omega, Nat.pow_zero, Nat.mul_one, Nat.one_mul]
      have hk17 : k ≤ 17 := by omega
      have m1 : 2 ^ 23 ≤ N / 2 ^ k := (Nat.le_div_iff_mul_le (Nat.two_pow_pos k)).mpr (by rw [← Nat.pow_add, show 23 + k = S by omega]; exact a1)
      have m2 : N / 2 ^ k < 2 ^ 24 := (Nat.div_lt_iff_lt_mul (Nat.two_pow_pos k)).mpr (by rw [← Nat.pow_add, show 24 + k = S + 1 by omega]; exact a2)
      have hdm := Nat.div_add_mod N (2 ^ k)
      have hml := Nat.mod_lt N (Nat.two_pow_pos k)
      have hk2 : 2 ^ k = 2 * 2 ^ (k - 1) := by rw [← Nat.pow_succ']; congr 1; omega
      have hkp : 2 ^ k ≤ 2 ^ 17 := Nat.pow_le_pow_right (by decide) hk17
      rw [ek] at hl
      refine lv_lload_n hx hb dX11_packedFloat_80 rfl (lv_at hl 3 rfl) ?_
      refine lv_iload hx hb dX11_packedFloat_81 (lv_at hl 0 rfl) ?_
      refine lv_lshr hx hb dX11_packedFloat_83 (l_shr (by omega) (by omega)) ?_
      obtain ⟨q, hq⟩ : ∃ q : Nat, q = N / 2 ^ k := ⟨_, rfl⟩
      obtain ⟨r, hr9⟩ : ∃ r : Nat, r = N % 2 ^ k := ⟨_, rfl⟩
      rw [← hq] at m1 m2 hdm ⊢
      rw [← hr9] at hdm hml
      have hqk : q * 2 ^ k = N - r := by rw [Nat.mul_comm]; omega
      have hnx : FP.Core.nearest N (2 ^ k) = if 2 * r < 2 ^ k then q else if 2 ^ k < 2 * r then q + 1 else q + q % 2 := by
        unfold FP.Core.nearest
        rw [← hq, ← hr9]
      obtain ⟨h, hh9⟩ : ∃ h : Nat, h = 2 ^ (k - 1) := ⟨_, rfl⟩
      rw [← hh9] at hk2
      have done : ∀ (mm : Nat) (ls : Array Slot), FP.Core.nearest N (2 ^ k) = mm → 2 ^ 23 ≤ mm → mm ≤ 2 ^ 24 → lv_has ls 11 [(2, .int (Int32.ofInt e0)), (4, .long (lN mm)), (6, .int (nI k))] → W p l e ({ frames := 0, cells := 0, slots := 0, locals := 0 }) s m ([.long (lN N), .int (Int32.ofInt e0)] : List Value).toArray below meth c s.heap [] 0 0 (MQ below (vp_Si (fun r => r = pF N e0)) ([.long (lN N), .int (Int32.ofInt e0)] : List Value).toArray s 0 0 (fun _ => False)) (F0 m 134 ls []) := by
        intro mm ls e1 e2 e3 hl
        rw [← ek] at hl
        refine segD mm ((S : Int) - 23) ls e2 e3 (by omega) (by omega) (by omega) (by omega) ?_ hl
        unfold pF
        rw [hrr, hnear, e1]
      refine lv_lstore (lv' := [(4, .long (lN q)), (6, .int (nI k)), (3, .int (nI (S + 1))), (0, .long (lN N)), (2, .int (Int32.ofInt e0))]) hx hb dX11_packedFloat_84 hl (by decide) rfl (fun ls hl => ?_)
      refine lv_lload_n hx hb dX11_packedFloat_86 rfl (lv_at hl 3 rfl) ?_
      refine lv_lload hx hb dX11_packedFloat_87 (lv_at hl 0 rfl) ?_
      refine lv_iload hx hb dX11_packedFloat_89 (lv_at hl 1 rfl) ?_
      refine lv_lshl hx hb dX11_packedFloat_91 (wb_shl q (by omega)) ?_
      rw [hqk]
      refine lv_lsub hx hb dX11_packedFloat_92 ?_
      rw [lN_sub (by omega), show N - (N - r) = r by omega]
      refine lv_lstore (lv' := [(7, .long (lN r)), (4, .long (lN q)), (6, .int (nI k)), (3, .int (nI (S + 1))), (0, .long (lN N)), (2, .int (Int32.ofInt e0))]) hx hb dX11_packedFloat_93 hl (by decide) rfl (fun ls hl => ?_)
      refine lv_lconst (v := lN 1) hx hb dX11_packedFloat_95 rfl ?_
      refine lv_iload hx hb dX11_packedFloat_96 (lv_at hl 2 rfl) ?_
      refine lv_iconst (v := nI 1) hx hb dX11_packedFloat_98 (by decide) ?_
      refine lv_isub hx hb dX11_packedFloat_99 ?_
      rw [pk_sub (show 1 ≤ k by omega)]
      refine lv_lshl hx hb dX11_packedFloat_100 (wb_shl 1 (by omega)) ?_
      rw [Nat.one_mul, ← hh9]
      refine lv_lstore (lv' := [(9, .long (lN h)), (7, .long (lN r)), (4, .long (lN q)), (6, .int (nI k)), (3, .int (nI (S + 1))), (0, .long (lN N)), (2, .int (Int32.ofInt e0))]) hx hb dX11_packedFloat_101 hl (by decide) rfl (fun ls hl => ?_)
      have up : FP.Core.nearest N (2 ^ k) = q + 1 → W p l e ({ frames := 0, cells := 0, slots := 0, locals := 0 }) s m ([.long (lN N), .int (Int32.ofInt e0)] : List Value).toArray below meth c s.heap [] 0 0 (MQ below (vp_Si (fun r => r = pF N e0)) ([.long (lN N), .int (Int32.ofInt e0)] : List Value).toArray s 0 0 (fun _ => False)) (F0 m 128 ls []) := by
        intro e1
        refine lv_lload hx hb dX11_packedFloat_128 (lv_at hl 2 rfl) ?_
        refine lv_lconst (v := lN 1) hx hb dX11_packedFloat_130 rfl ?_
        refine lv_ladd hx hb dX11_packedFloat_131 ?_
        rw [lN_add]
        refine lv_lstore (lv' := [(4, .long (lN (q + 1))), (9, .long (lN h)), (7, .long (lN r)), (6, .int (nI k)), (3, .int (nI (S + 1))), (0, .long (lN N)), (2, .int (Int32.ofInt e0))]) hx hb dX11_packedFloat_132 hl (by decide) rfl (fun ls hl => ?_)
        exact done (q + 1) ls e1 (by omega) (by omega) (lv_sub hl [6, 0, 3] rfl)
      have down : FP.Core.nearest N (2 ^ k) = q → W p l e ({ frames := 0, cells := 0, slots := 0, locals := 0 }) s m ([.long (lN N), .int (Int32.ofInt e0)] : List Value).toArray below meth c s.heap [] 0 0 (MQ below (vp_Si (fun r => r = pF N e0)) ([.long (lN N), .int (Int32.ofInt e0)] : List Value).toArray s 0 0 (fun _ => False)) (F0 m 134 ls []) := by
        intro e1
        exact done q ls e1 m1 (by omega) (lv_sub hl [6, 2, 3] rfl)
      refine lv_lload hx hb dX11_packedFloat_103 (lv_at hl 1 rfl) ?_
      refine lv_lload hx hb dX11_packedFloat_105 (lv_at hl 0 rfl) ?_
      refine W.lcmp hx hb dX11_packedFloat_107 ?_
      have cr := lc_cases r h (by omega) (by omega)
      refine lv_if_gt (tgt := 128) hx hb dX11_packedFloat_108 (by decide) (fun g1 => up ?_) (fun g1 => ?_)
      · have : h < r := by
          rcases cr with w1 | w1 | w1
          · rw [w1.2] at g1; exact absurd g1 (by decide)
          · rw [w1.2] at g1; exact absurd g1 (by decide)
          · exact w1.1
        rw [hnx, if_neg (by omega), if_pos (by omega)]
      have g2 : r ≤ h := by
        rcases cr with w1 | w1 | w1
        · omega
        · omega
        · rw [w1.2] at g1; exact absurd (by decide) g1
      refine lv_lload hx hb dX11_packedFloat_111 (lv_at hl 1 rfl) ?_
      refine lv_lload hx hb dX11_packedFloat_113 (lv_at hl 0 rfl) ?_
      refine W.lcmp hx hb dX11_packedFloat_115 ?_
      refine lv_if_ne (tgt := 134) hx hb dX11_packedFloat_116 (by decide) (fun g3 => down ?_) (fun g3 => ?_)
      · have : r < h := by
          rcases cr with w1 | w1 | w1
          · exact w1.1
          · exact absurd w1.2 g3
          · omega
        rw [hnx, if_pos (by omega)]
      have g4 : r = h := by
        rcases cr with w1 | w1 | w1
        · rw [w1.2] at g3; exact absurd g3 (by decide)
        · exact w1.1
        · rw [w1.2] at g3; exact absurd g3 (by decide)
      have hnx2 : FP.Core.nearest N (2 ^ k) = q + q % 2 := by rw [hnx, if_neg (by omega), if_neg (by omega)]
      refine lv_lload hx hb dX11_packedFloat_119 (lv_at hl 2 rfl) ?_
      refine lv_lconst (v := lN 1) hx hb dX11_packedFloat_121 rfl ?_
      refine lv_land hx hb dX11_packedFloat_122 ?_
      rw [wb_and (by omega) (by decide), Nat.and_one_is_mod]
      refine lv_lconst (v := lN 1) hx hb dX11_packedFloat_123 rfl ?_
      refine W.lcmp hx hb dX11_packedFloat_124 ?_
      have co := lc_cases (q % 2) 1 (by omega) (by decide)
      refine lv_if_ne (tgt := 134) hx hb dX11_packedFloat_125 (by decide) (fun g5 => down ?_) (fun g5 => up ?_)
      · have : ¬ q % 2 = 1 := by
          rcases co with w1 | w1 | w1
          · omega
          · exact absurd w1.2 g5
          · omega
        rw [hnx2]
        omega
      · have : q % 2 = 1 := by
          rcases co with w1 | w1 | w1
          · rw [w1.2] at g5; exact absurd g5 (by decide)
          · exact w1.1
          · rw [w1.2] at g5; exact absurd g5 (by decide)
        rw [hnx2]
        omega
    · -- digits come
      refine lv_if_gt (tgt := 80) hx hb dX11_packedFloat_67 (by decide) (fun h => absurd h (show ¬ (0 : Int32) < _ by rw [kk_lt, oi_toInt (by omega) (by omega)]; simp only [Int32.reduceToInt]; omega)) (fun _ => ?_)
      obtain ⟨k, hk⟩ : ∃ k : Nat, k = 23 - S := ⟨_, rfl⟩
      have ek : -Int32.ofInt ((S : Int) - 23) = nI k := by
        rw [← Int32.ofInt_neg]
        exact oi_nI (by omega)
      have hnear : FP.Core.nearest (N * 2 ^ (23 - (S : Int)).toNat) (1 * 2 ^ ((S : Int) - 23).toNat) = N * 2 ^ k := by
        rw [show (23 - (S : Int)).toNat = k by omega, show ((S : Int) - 23).toNat = 0 by omega, Nat.pow_zero, Nat.mul_one]
        have := FP.Core.nearest_exact (B := 1) (N * 2 ^ k) (by decide)
        rw [Nat.mul_one] at this
        exact this
      have m1 : 2 ^ 23 ≤ N * 2 ^ k := by
        calc 2 ^ 23 = 2 ^ S * 2 ^ k := by rw [← Nat.pow_add]; congr 1; omega
          _ ≤ N * 2 ^ k := Nat.mul_le_mul_right _ a1
      have m2 : N * 2 ^ k < 2 ^ 24 := by
        calc N * 2 ^ k < 2 ^ (S + 1) * 2 ^ k := Nat.mul_lt_mul_of_pos_right a2 (Nat.two_pow_pos k)
          _ = 2 ^ 24 := by rw [← Nat.pow_add]; congr 1; omega
      refine lv_lload_n hx hb dX11_packedFloat_70 rfl (lv_at hl 3 rfl) ?_
      refine lv_iload hx hb dX11_packedFloat_71 (lv_at hl 0 rfl) ?_
      refine lv_ineg hx hb dX11_packedFloat_73 ?_
      rw [ek]
      refine lv_lshl hx hb dX11_packedFloat_74 (wb_shl N (by omega)) ?_
      refine lv_lstore (lv' := [(4, .long (lN (N * 2 ^ k))), (6, .int (Int32.ofInt ((S : Int) - 23))), (3, .int (nI (S + 1))), (0, .long (lN N)), (2, .int (Int32.ofInt e0))]) hx hb dX11_packedFloat_75 hl (by decide) rfl (fun ls hl => ?_)
      refine lv_goto (tgt := 151) hx hb dX11_packedFloat_77 (by decide) ?_
      refine segE (N * 2 ^ k) ((S : Int) - 23) ls m1 m2 (by omega) (by omega) (by omega) (by omega) ?_ (lv_sub hl [4, 0, 1] rfl)
      unfold pF
      rw [hrr, hnear]
      unfold FP.Core.settle FP.Core.bound
      rw [q_b32.2.2.2, q_b32.2.1, if_pos m2, if_pos (by omega)]
  have loop : ∀ (n k : Nat) (ls : Array Slot), k + n = S + 1 → lv_has ls 11 [(3, .int (nI k)), (0, .long (lN N)), (2, .int (Int32.ofInt e0))] → W p l e ({ frames := 0, cells := 0, slots := 0, locals := 0 }) s m ([.long (lN N), .int (Int32.ofInt e0)] : List Value).toArray below meth c s.heap [] 0 0 (MQ below (vp_Si (fun r => r = pF N e0)) ([.long (lN N), .int (Int32.ofInt e0)] : List Value).toArray s 0 0 (fun _ => False)) (F0 m 10 ls []) := by
    intro n
    induction n with
    | zero =>
      intro k ls hk hl
      obtain rfl : k = S + 1 := hk
      refine lv_iload_n hx hb dX11_packedFloat_10 rfl (lv_at hl 0 rfl) ?_
      refine lv_bipush (v := 62) hx hb dX11_packedFloat_11 (by decide) ?_
      refine lv_icmp_ge (tgt := 30) hx hb dX11_packedFloat_13 (by decide) (fun h => absurd h (nI_ge (b := 62) (by omega) (by decide))) (fun _ => ?_)
      refine lv_lload_n hx hb dX11_packedFloat_16 rfl (lv_at hl 1 rfl) ?_
      refine lv_iload_n hx hb dX11_packedFloat_17 rfl (lv_at hl 0 rfl) ?_
      refine lv_lshr hx hb dX11_packedFloat_18 (l_shr (by omega) (by omega)) ?_
      rw [Nat.div_eq_of_lt a2]
      refine lv_lconst (v := lN 0) hx hb dX11_packedFloat_19 rfl ?_
      refine W.lcmp hx hb dX11_packedFloat_20 ?_
      refine lv_if_le (tgt := 30) hx hb dX11_packedFloat_21 (by decide) (fun _ => ?_) (fun h => absurd (by decide) h)
      exact segA ls hl
    | succ n ih =>
      intro k ls hk hl
      refine lv_iload_n hx hb dX11_packedFloat_10 rfl (lv_at hl 0 rfl) ?_
      refine lv_bipush (v := 62) hx hb dX11_packedFloat_11 (by decide) ?_
      refine lv_icmp_ge (tgt := 30) hx hb dX11_packedFloat_13 (by decide) (fun h => absurd h (nI_ge (b := 62) (by omega) (by decide))) (fun _ => ?_)
      refine lv_lload_n hx hb dX11_packedFloat_16 rfl (lv_at hl 1 rfl) ?_
      refine lv_iload_n hx hb dX11_packedFloat_17 rfl (lv_at hl 0 rfl) ?_
      refine lv_lshr hx hb dX11_packedFloat_18 (l_shr (by omega) (by omega)) ?_
      have hp : 0 < N / 2 ^ k := Nat.div_pos (Nat.le_trans (Nat.pow_le_pow_right (by decide) (by omega)) a1) (Nat.two_pow_pos k)
      have hp2 : N / 2 ^ k ≤ N := Nat.div_le_self _ _
      refine lv_lconst (v := lN 0) hx hb dX11_packedFloat_19 rfl ?_
      refine W.lcmp hx hb dX11_packedFloat_20 ?_
      refine lv_if_le (tgt := 30) hx hb dX11_packedFloat_21 (by decide) (fun h => absurd h (by rcases lc_cases (N / 2 ^ k) 0 (by omega) (by decide) with w1 | w1 | w1 <;> first | (rw [w1.2]; decide) | omega)) (fun _ => ?_)
      refine lv_iinc (v := nI (k + 1)) (lv' := [(3, .int (nI (k + 1))), (0, .long (lN N)), (2, .int (Int32.ofInt e0))]) hx hb dX11_packedFloat_24 hl (k := 0) rfl (nI_1 k) (by decide) rfl (fun ls hl => ?_)
      refine lv_goto (tgt := 10) hx hb dX11_packedFloat_27 (by decide) ?_
      exact ih (k + 1) ls (by omega) hl
  refine lv_lload_n hx hb dX11_packedFloat_0 rfl (lv_at hl 0 rfl) ?_
  refine lv_lconst (v := lN 0) hx hb dX11_packedFloat_1 rfl ?_
  refine W.lcmp hx hb dX11_packedFloat_2 ?_
  refine lv_if_ne (tgt := 8) hx hb dX11_packedFloat_3 (by decide) (fun _ => ?_) (fun h => absurd h (by rcases lc_cases N 0 (by omega) (by decide) with w1 | w1 | w1 <;> first | (rw [w1.2]; decide) | omega))
  refine lv_iconst (v := 0) hx hb dX11_packedFloat_8 (by decide) ?_
  refine lv_istore_n (lv' := [(3, .int 0), (0, .long (lN N)), (2, .int (Int32.ofInt e0))]) hx hb dX11_packedFloat_9 rfl hl (by decide) rfl (fun ls hl => ?_)
  exact loop (S + 1) 0 ls (by omega) hl
