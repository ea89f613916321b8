set_option maxHeartbeats 4000000 in
set_option maxRecDepth 100000 in
theorem c_X4_bitsOf (l : Launch) (D : va_G) (cB cI cJ cD : ClassId) (p0 : UInt32) (sz : Nat) (hn : kn p0) : Met l yX4_bitsOf (kk_W yX4_bitsOf cX4_bitsOf 5 (some .int)) ({ frames := 0, cells := 0, slots := 0, locals := 0 }) (va_Pc [.float p0] (kk_pre D cB cI cJ cD [] sz)) (vp_Si (fun r => r = kf p0)) 0 0 (fun _ => False) := by
  refine kk_pstart (y := yX4_bitsOf) (maxL := 5) (av := [.float p0]) (by decide) (Nat.le_of_ble_eq_true rfl) ?_
  intro p e s m below meth c ls hx hb hr hml hown hts hE hlocks hsz hP hD hl
  have hown : s.vm.findClass RX4 = some m.cls := hown
  have hl : lv_has ls 5 [(0, .float p0)] := hl
  refine lv_fload_n hx hb dX4_bitsOf_0 rfl (lv_at hl 0 rfl) ?_
  refine lv_fconst0 hx hb dX4_bitsOf_1 ?_
  refine lv_fcmp hx hb dX4_bitsOf_2 ?_
  rcases hn with rfl | ⟨c0, q0, hv, hc0⟩
  · refine lv_if_gt (tgt := 8) hx hb dX4_bitsOf_3 (by decide) (fun h => absurd h (by decide +kernel)) (fun _ => ?_)
    refine lv_iconst (v := 0) hx hb dX4_bitsOf_6 (by decide) ?_
    exact kk_pret_i hx hb hr hlocks rfl dX4_bitsOf_7
  · have hv : FP.Core.val32 p0 = .fin false c0 q0 := hv
    have hc0 : 2 ^ 23 ≤ c0 := hc0
    obtain ⟨hc1, hq1, hq2, -⟩ : FP.Core.fits FP.Core.b32 (.fin false c0 q0) := by rw [← hv]; exact FP.Core.val32_fits p0
    rw [q_b32.2.2.2] at hc1
    rw [q_b32.1] at hq1
    rw [q_b32.2.1] at hq2
    refine lv_if_gt (tgt := 8) hx hb dX4_bitsOf_3 (by decide) (fun _ => ?_) (fun h => absurd (cv_pos hv (by omega) hq1) h)
    refine lv_fload_n hx hb dX4_bitsOf_8 rfl (lv_at hl 0 rfl) ?_
    have hf := f2d_dd hv hc0 hc1 hq1 hq2
    refine lv_f2d hx hb dX4_bitsOf_9 (by rw [hf]; exact dd_nn (by omega) (by omega) (by omega) (by omega)) ?_
    rw [hf]
    obtain ⟨C, hC⟩ : ∃ C : Nat, C = c0 * 2 ^ 29 := ⟨_, rfl⟩
    rw [← hC]
    have hC1 : 2 ^ 52 ≤ C := by omega
    have hC2 : C < 2 ^ 53 := by omega
    -- the tail: the exponent is told, the fraction lies between 1 and 2
    have tail : ∀ (ls : Array Slot), lv_has ls 5 [(3, .int (Int32.ofInt (q0 + 23))), (1, .double (dd C (-52)))] → W p l e ({ frames := 0, cells := 0, slots := 0, locals := 0 }) s m ([.float p0] : List Value).toArray below meth c s.heap [] 0 0 (MQ below (vp_Si (fun r => r = kf p0)) ([.float p0] : List Value).toArray s 0 0 (fun _ => False)) (F0 m 79 ls []) := by
      intro ls hl
      refine lv_iload_n hx hb dX4_bitsOf_79 rfl (lv_at hl 0 rfl) ?_
      refine lv_bipush (v := 127) hx hb dX4_bitsOf_80 (by decide) ?_
      refine lv_icmp_le (tgt := 88) hx hb dX4_bitsOf_82 (by decide) (fun _ => ?_) (fun h => absurd (by rw [kk_le, oi_toInt (by omega) (by omega)]; simp only [Int32.reduceToInt]; omega) h)
      refine lv_iload_n hx hb dX4_bitsOf_88 rfl (lv_at hl 0 rfl) ?_
      refine lv_bipush (v := -126) hx hb dX4_bitsOf_89 (by decide) ?_
      refine lv_icmp_lt (tgt := 111) hx hb dX4_bitsOf_91 (by decide) (fun h => absurd h (by rw [kk_lt, oi_toInt (by omega) (by omega)]; simp only [Int32.reduceToInt]; omega)) (fun _ => ?_)
      refine lv_iload_n hx hb dX4_bitsOf_94 rfl (lv_at hl 0 rfl) ?_
      refine lv_bipush (v := 127) hx hb dX4_bitsOf_95 (by decide) ?_
      refine lv_iadd hx hb dX4_bitsOf_97 ?_
      refine lv_bipush (v := 23) hx hb dX4_bitsOf_98 (by decide) ?_
      refine lv_ishl hx hb dX4_bitsOf_100 ?_
      refine lv_dload_n hx hb dX4_bitsOf_101 rfl (lv_at hl 1 rfl) ?_
      refine lv_dconst1 hx hb dX4_bitsOf_102 ?_
      obtain ⟨t, ht⟩ : ∃ t : Nat, t = c0 - 2 ^ 23 := ⟨_, rfl⟩
      have hct : c0 = 2 ^ 23 + t := by omega
      have hCt : C = (2 ^ 23 + t) * 2 ^ 29 := by rw [hC, hct]
      have ht2 : t < 2 ^ 23 := by omega
      rw [hCt]
      refine lv_dsub hx hb dX4_bitsOf_103 (dd_sub1_nn ht2) ?_
      refine lv_ldc2d (v := 4710765210229538816) hx hb hown (hts _ w_600) dX4_bitsOf_104 ?_
      have hz := dd_frac ht2 (dd_sub1 ht2)
      refine lv_dmul hx hb dX4_bitsOf_107 (dd_frac_nn hz) ?_
      refine lv_d2i hx hb dX4_bitsOf_108 ?_
      rw [dd_int ht2 hz]
      refine lv_ior hx hb dX4_bitsOf_109 ?_
      refine kk_pret_i hx hb hr hlocks ?_ dX4_bitsOf_110
      show _ = p0.toInt32
      have e1 : Int32.ofInt (q0 + 23) + 127 = nI (q0 + 150).toNat := by
        rw [show (127 : Int32) = Int32.ofInt 127 from rfl, oi_add]
        exact oi_nI (by omega)
      rw [e1, bits_join _ _ (by omega) ht2, x_bits hv hc0 hq1, ht]
    have exit2 : ∀ (ls : Array Slot), lv_has ls 5 [(4, .int 0), (3, .int (Int32.ofInt (q0 + 23))), (1, .double (dd C (-52)))] → W p l e ({ frames := 0, cells := 0, slots := 0, locals := 0 }) s m ([.float p0] : List Value).toArray below meth c s.heap [] 0 0 (MQ below (vp_Si (fun r => r = kf p0)) ([.float p0] : List Value).toArray s 0 0 (fun _ => False)) (F0 m 50 ls []) := by
      intro ls hl
      refine lv_iload hx hb dX4_bitsOf_50 (lv_at hl 0 rfl) ?_
      refine lv_sipush (v := 149) hx hb dX4_bitsOf_52 (by decide) ?_
      refine lv_icmp_ge (tgt := 79) hx hb dX4_bitsOf_55 (by decide) (fun h => absurd h (by decide)) (fun _ => ?_)
      refine lv_dload_n hx hb dX4_bitsOf_58 rfl (lv_at hl 2 rfl) ?_
      refine lv_dconst1 hx hb dX4_bitsOf_59 ?_
      refine lv_dcmp hx hb dX4_bitsOf_60 ?_
      refine lv_if_ge (tgt := 79) hx hb dX4_bitsOf_61 (by decide) (fun _ => ?_) (fun h => absurd (cv_ge1 hC1 hC2 (by decide) (by decide) (by decide)) h)
      exact tail ls (lv_sub hl [1, 2] rfl)
    have loop2 : ∀ (n k : Nat) (ls : Array Slot), q0 + 23 + k + n = 0 → lv_has ls 5 [(4, .int (nI k)), (3, .int (Int32.ofInt (-(k : Int)))), (1, .double (dd C (q0 - 29 + k)))] → W p l e ({ frames := 0, cells := 0, slots := 0, locals := 0 }) s m ([.float p0] : List Value).toArray below meth c s.heap [] 0 0 (MQ below (vp_Si (fun r => r = kf p0)) ([.float p0] : List Value).toArray s 0 0 (fun _ => False)) (F0 m 50 ls []) := by
      intro n
      induction n with
      | zero =>
        intro k ls hk hl
        have e1 : q0 - 29 + (k : Int) = -52 := by omega
        have e2 : -(k : Int) = q0 + 23 := by omega
        rw [e1, e2] at hl
        refine lv_iload hx hb dX4_bitsOf_50 (lv_at hl 0 rfl) ?_
        refine lv_sipush (v := 149) hx hb dX4_bitsOf_52 (by decide) ?_
        refine lv_icmp_ge (tgt := 79) hx hb dX4_bitsOf_55 (by decide) (fun h => absurd h (nI_ge (b := 149) (by omega) (by decide))) (fun _ => ?_)
        refine lv_dload_n hx hb dX4_bitsOf_58 rfl (lv_at hl 2 rfl) ?_
        refine lv_dconst1 hx hb dX4_bitsOf_59 ?_
        refine lv_dcmp hx hb dX4_bitsOf_60 ?_
        refine lv_if_ge (tgt := 79) hx hb dX4_bitsOf_61 (by decide) (fun _ => ?_) (fun h => absurd (cv_ge1 hC1 hC2 (by decide) (by decide) (by decide)) h)
        exact tail ls (lv_sub hl [1, 2] rfl)
      | succ n ih =>
        intro k ls hk hl
        refine lv_iload hx hb dX4_bitsOf_50 (lv_at hl 0 rfl) ?_
        refine lv_sipush (v := 149) hx hb dX4_bitsOf_52 (by decide) ?_
        refine lv_icmp_ge (tgt := 79) hx hb dX4_bitsOf_55 (by decide) (fun h => absurd h (nI_ge (b := 149) (by omega) (by decide))) (fun _ => ?_)
        refine lv_dload_n hx hb dX4_bitsOf_58 rfl (lv_at hl 2 rfl) ?_
        refine lv_dconst1 hx hb dX4_bitsOf_59 ?_
        refine lv_dcmp hx hb dX4_bitsOf_60 ?_
        refine lv_if_ge (tgt := 79) hx hb dX4_bitsOf_61 (by decide) (fun h => absurd h (cv_lt1 hC1 hC2 (by omega) (by omega) (by omega))) (fun _ => ?_)
        refine lv_dload_n hx hb dX4_bitsOf_64 rfl (lv_at hl 2 rfl) ?_
        refine lv_ldc2d (v := 4611686018427387904) hx hb hown (hts _ w_598) dX4_bitsOf_65 ?_
        have hm := dd_mul (Q := q0 - 29 + k) hC1 hC2 (by omega) (by omega)
        refine lv_dmul hx hb dX4_bitsOf_68 (by rw [hm]; exact dd_nn hC1 hC2 (by omega) (by omega)) ?_
        rw [hm]
        refine lv_dstore_n (lv' := [(1, .double (dd C (q0 - 29 + k + 1))), (4, .int (nI k)), (3, .int (Int32.ofInt (-(k : Int))))]) hx hb dX4_bitsOf_69 rfl hl (by decide) rfl (fun ls hl => ?_)
        refine lv_iinc (v := Int32.ofInt (-((k + 1 : Nat) : Int))) (lv' := [(3, .int (Int32.ofInt (-((k + 1 : Nat) : Int)))), (1, .double (dd C (q0 - 29 + k + 1))), (4, .int (nI k))]) hx hb dX4_bitsOf_70 hl (k := 2) rfl (by rw [oi_add]; congr 1; omega) (by decide) rfl (fun ls hl => ?_)
        refine lv_iinc (v := nI (k + 1)) (lv' := [(4, .int (nI (k + 1))), (3, .int (Int32.ofInt (-((k + 1 : Nat) : Int)))), (1, .double (dd C (q0 - 29 + k + 1)))]) hx hb dX4_bitsOf_73 hl (k := 2) rfl (nI_1 k) (by decide) rfl (fun ls hl => ?_)
        refine lv_goto (tgt := 50) hx hb dX4_bitsOf_76 (by decide) ?_
        refine ih (k + 1) ls (by omega) ?_
        rw [show q0 - 29 + ((k + 1 : Nat) : Int) = q0 - 29 + k + 1 by omega]
        exact hl
    have loop1 : ∀ (n k : Nat) (ls : Array Slot), (k : Int) + n = q0 + 23 → lv_has ls 5 [(4, .int (nI k)), (3, .int (Int32.ofInt (k : Int))), (1, .double (dd C (q0 - 29 - k)))] → W p l e ({ frames := 0, cells := 0, slots := 0, locals := 0 }) s m ([.float p0] : List Value).toArray below meth c s.heap [] 0 0 (MQ below (vp_Si (fun r => r = kf p0)) ([.float p0] : List Value).toArray s 0 0 (fun _ => False)) (F0 m 16 ls []) := by
      intro n
      induction n with
      | zero =>
        intro k ls hk hl
        have e1 : q0 - 29 - (k : Int) = -52 := by omega
        have e2 : (k : Int) = q0 + 23 := by omega
        rw [e1, e2] at hl
        refine lv_iload hx hb dX4_bitsOf_16 (lv_at hl 0 rfl) ?_
        refine lv_sipush (v := 128) hx hb dX4_bitsOf_18 (by decide) ?_
        refine lv_icmp_ge (tgt := 47) hx hb dX4_bitsOf_21 (by decide) (fun h => absurd h (nI_ge (b := 128) (by omega) (by decide))) (fun _ => ?_)
        refine lv_dload_n hx hb dX4_bitsOf_24 rfl (lv_at hl 2 rfl) ?_
        refine lv_ldc2d (v := 4611686018427387904) hx hb hown (hts _ w_598) dX4_bitsOf_25 ?_
        refine lv_dcmp hx hb dX4_bitsOf_28 ?_
        refine lv_if_lt (tgt := 47) hx hb dX4_bitsOf_29 (by decide) (fun _ => ?_) (fun h => absurd (cv_lt2 hC1 hC2 (by decide) (by decide) (by decide)) h)
        refine lv_iconst (v := 0) hx hb dX4_bitsOf_47 (by decide) ?_
        refine lv_istore (lv' := [(4, .int 0), (3, .int (Int32.ofInt (q0 + 23))), (1, .double (dd C (-52)))]) hx hb dX4_bitsOf_48 hl (by decide) rfl (fun ls hl => ?_)
        exact exit2 ls hl
      | succ n ih =>
        intro k ls hk hl
        refine lv_iload hx hb dX4_bitsOf_16 (lv_at hl 0 rfl) ?_
        refine lv_sipush (v := 128) hx hb dX4_bitsOf_18 (by decide) ?_
        refine lv_icmp_ge (tgt := 47) hx hb dX4_bitsOf_21 (by decide) (fun h => absurd h (nI_ge (b := 128) (by omega) (by decide))) (fun _ => ?_)
        refine lv_dload_n hx hb dX4_bitsOf_24 rfl (lv_at hl 2 rfl) ?_
        refine lv_ldc2d (v := 4611686018427387904) hx hb hown (hts _ w_598) dX4_bitsOf_25 ?_
        refine lv_dcmp hx hb dX4_bitsOf_28 ?_
        refine lv_if_lt (tgt := 47) hx hb dX4_bitsOf_29 (by decide) (fun h => absurd h (cv_ge2 hC1 hC2 (by omega) (by omega) (by omega))) (fun _ => ?_)
        refine lv_dload_n hx hb dX4_bitsOf_32 rfl (lv_at hl 2 rfl) ?_
        refine lv_ldc2d (v := 4611686018427387904) hx hb hown (hts _ w_598) dX4_bitsOf_33 ?_
        have hm := dd_div (Q := q0 - 29 - k) hC1 hC2 (by omega) (by omega)
        refine lv_ddiv hx hb dX4_bitsOf_36 (by rw [hm]; exact dd_nn hC1 hC2 (by omega) (by omega)) ?_
        rw [hm]
        refine lv_dstore_n (lv' := [(1, .double (dd C (q0 - 29 - k - 1))), (4, .int (nI k)), (3, .int (Int32.ofInt (k : Int)))]) hx hb dX4_bitsOf_37 rfl hl (by decide) rfl (fun ls hl => ?_)
        refine lv_iinc (v := Int32.ofInt ((k + 1 : Nat) : Int)) (lv' := [(3, .int (Int32.ofInt ((k + 1 : Nat) : Int))), (1, .double (dd C (q0 - 29 - k - 1))), (4, .int (nI k))]) hx hb dX4_bitsOf_38 hl (k := 2) rfl (by rw [oi_add]; congr 1) (by decide) rfl (fun ls hl => ?_)
        refine lv_iinc (v := nI (k + 1)) (lv' := [(4, .int (nI (k + 1))), (3, .int (Int32.ofInt ((k + 1 : Nat) : Int))), (1, .double (dd C (q0 - 29 - k - 1)))]) hx hb dX4_bitsOf_41 hl (k := 2) rfl (nI_1 k) (by decide) rfl (fun ls hl => ?_)
        refine lv_goto (tgt := 16) hx hb dX4_bitsOf_44 (by decide) ?_
        refine ih (k + 1) ls (by omega) ?_
        rw [show q0 - 29 - ((k + 1 : Nat) : Int) = q0 - 29 - k - 1 by omega]
        exact hl
    refine lv_dstore_n (lv' := [(1, .double (dd C (q0 - 29))), (0, .float p0)]) hx hb dX4_bitsOf_10 rfl hl (by decide) rfl (fun ls hl => ?_)
    refine lv_iconst (v := 0) hx hb dX4_bitsOf_11 (by decide) ?_
    refine lv_istore_n (lv' := [(3, .int 0), (1, .double (dd C (q0 - 29))), (0, .float p0)]) hx hb dX4_bitsOf_12 rfl hl (by decide) rfl (fun ls hl => ?_)
    refine lv_iconst (v := 0) hx hb dX4_bitsOf_13 (by decide) ?_
    refine lv_istore (lv' := [(4, .int 0), (3, .int 0), (1, .double (dd C (q0 - 29))), (0, .float p0)]) hx hb dX4_bitsOf_14 hl (by decide) rfl (fun ls hl => ?_)
    by_cases hE0 : 0 ≤ q0 + 23
    · refine loop1 (q0 + 23).toNat 0 ls (by omega) ?_
      rw [show q0 - 29 - ((0 : Nat) : Int) = q0 - 29 by omega]
      exact lv_sub hl [0, 1, 2] rfl
    · refine lv_iload hx hb dX4_bitsOf_16 (lv_at hl 0 rfl) ?_
      refine lv_sipush (v := 128) hx hb dX4_bitsOf_18 (by decide) ?_
      refine lv_icmp_ge (tgt := 47) hx hb dX4_bitsOf_21 (by decide) (fun h => absurd h (by decide)) (fun _ => ?_)
      refine lv_dload_n hx hb dX4_bitsOf_24 rfl (lv_at hl 2 rfl) ?_
      refine lv_ldc2d (v := 4611686018427387904) hx hb hown (hts _ w_598) dX4_bitsOf_25 ?_
      refine lv_dcmp hx hb dX4_bitsOf_28 ?_
      refine lv_if_lt (tgt := 47) hx hb dX4_bitsOf_29 (by decide) (fun _ => ?_) (fun h => absurd (cv_lt2 hC1 hC2 (by omega) (by omega) (by omega)) h)
      refine lv_iconst (v := 0) hx hb dX4_bitsOf_47 (by decide) ?_
      refine lv_istore (lv' := [(4, .int 0), (3, .int 0), (1, .double (dd C (q0 - 29))), (0, .float p0)]) hx hb dX4_bitsOf_48 hl (by decide) rfl (fun ls hl => ?_)
      refine loop2 (-(q0 + 23)).toNat 0 ls (by omega) ?_
      rw [show q0 - 29 + ((0 : Nat) : Int) = q0 - 29 by omega]
      exact lv_sub hl [0, 1, 2] rfl
