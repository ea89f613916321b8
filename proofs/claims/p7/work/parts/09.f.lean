theorem rr_nn (f : FP.Core.Fmt) (s : Bool) (A B : Nat) (e : Int) : ¬ FP.Core.roundRatio f s A B e = .nan := by
  unfold FP.Core.roundRatio FP.Core.roundAt FP.Core.settle FP.Core.bound
  repeat' split
  all_goals (intro h; cases h)
theorem nn_i2d (w : Int32) : ¬ FP.Core.val64 (FP.i2d w) = .nan := by
  rw [FP.Core.val64_i2d]
  exact rr_nn _ _ _ _ _
theorem nn_mul2 {x : UInt64} (h : ¬ FP.Core.val64 x = .nan) : ¬ FP.Core.val64 (FP.dmul x 4611686018427387904) = .nan := by
  rw [FP.Core.val64_dmul, v_two]
  cases hx : FP.Core.val64 x with
  | nan => exact absurd hx h
  | inf s => intro g; exact absurd g (by show ¬ FP.Core.round FP.Core.b64 (if (2 ^ 52 : Nat) = 0 then .nan else .inf (s != false)) = _; rw [if_neg (by decide)]; intro g2; cases g2)
  | fin s c q => exact rr_nn _ _ _ _ _
theorem nn_div2 {x : UInt64} (h : ¬ FP.Core.val64 x = .nan) : ¬ FP.Core.val64 (FP.ddiv x 4611686018427387904) = .nan := by
  rw [FP.Core.val64_ddiv, v_two]
  cases hx : FP.Core.val64 x with
  | nan => exact absurd hx h
  | inf s => intro g; cases g
  | fin s c q =>
    show ¬ (if (2 ^ 52 : Nat) = 0 then (if c = 0 then FP.Core.Datum.nan else .inf (s != false)) else FP.Core.roundRatio FP.Core.b64 (s != false) c (2 ^ 52) (q - -51)) = _
    rw [if_neg (by decide)]
    exact rr_nn _ _ _ _ _
theorem nn_sub {x : UInt64} (h : ¬ FP.Core.val64 x = .nan) : ¬ FP.Core.val64 (FP.dsub x 4710765210229538816) = .nan := by
  rw [FP.Core.val64_dsub, v_23]
  cases hx : FP.Core.val64 x with
  | nan => exact absurd hx h
  | inf s => intro g; cases g
  | fin s c q => exact rr_nn _ _ _ _ _
theorem nn_d2f {x : UInt64} (h : ¬ FP.Core.val64 x = .nan) : vf_n32 (FP.d2f x) := by
  have hn : FP.Core.dIsNaN x = false := decide_eq_false h
  have e0 : FP.d2f x = FP.Core.d2f x := by
    show (if FP.Core.dIsNaN x = true then FP.nanD2F x else FP.Core.d2f x) = _
    rw [hn]
    rfl
  rw [e0]
  refine nn32 ?_
  rw [FP.Core.val32_d2f]
  cases hx : FP.Core.val64 x with
  | nan => exact absurd hx h
  | inf s => intro g; cases g
  | fin s c q => exact rr_nn _ _ _ _ _
theorem ushr23 (x : Int32) : ∃ k : Nat, k < 512 ∧ (x.toUInt32 >>> ((23 : Int32).toUInt32 &&& Int32.toUInt32 31)).toInt32 = nI k := by
  have h := pk_ushr x 23 23 (by decide)
  refine ⟨x.toBitVec.toNat / 2 ^ 23, ?_, ?_⟩
  · have := x.toBitVec.isLt
    omega
  · apply Int32.toBitVec.inj
    apply BitVec.eq_of_toNat_eq
    have := x.toBitVec.isLt
    rw [h]
    unfold nI
    rw [Int32.toBitVec_ofNat', BitVec.toNat_ofNat, Nat.mod_eq_of_lt (by omega)]
set_option maxHeartbeats 4000000 in
set_option maxRecDepth 100000 in
theorem c_X4_floatOf (l : Launch) (D : va_G) (cB cI cJ cD : ClassId) (p0 : Int32) (sz : Nat) : Met l yX4_floatOf (kk_W yX4_floatOf cX4_floatOf 5 (some .float)) ({ frames := 0, cells := 0, slots := 0, locals := 0 }) (va_Pc [.int p0] (kk_pre D cB cI cJ cD [] sz)) (vp_Sf (fun _ => True)) 0 0 (fun _ => False) := by
  refine kk_pstart (y := yX4_floatOf) (maxL := 5) (av := [.int p0]) (by decide) (Nat.le_of_ble_eq_true rfl) ?_
  intro p e s m below meth c ls hx hb hr hml hown hts hE hlocks hsz hP hD hl
  have hown : s.vm.findClass RX4 = some m.cls := hown
  have hl : lv_has ls 5 [(0, .int p0)] := hl
  have last : ∀ (x : UInt64) (ls : Array Slot), ¬ FP.Core.val64 x = .nan → lv_has ls 5 [(2, .double x)] → W p l e ({ frames := 0, cells := 0, slots := 0, locals := 0 }) s m ([.int p0] : List Value).toArray below meth c s.heap [] 0 0 (MQ below (vp_Sf (fun _ => True)) ([.int p0] : List Value).toArray s 0 0 (fun _ => False)) (F0 m 77 ls []) := by
    intro x ls hn hl
    refine lv_dload_n hx hb dX4_floatOf_77 rfl (lv_at hl 0 rfl) ?_
    refine lv_d2f hx hb dX4_floatOf_78 (nn_d2f hn) ?_
    exact kk_pret_f hx hb hr hlocks trivial dX4_floatOf_79
  have loop2 : ∀ (z : Int) (n k : Nat) (x : UInt64) (ls : Array Slot), -150 ≤ z → z ≤ 361 → k + n = (-z).toNat → ¬ FP.Core.val64 x = .nan → lv_has ls 5 [(4, .int (Int32.ofInt (-(k : Int)))), (1, .int (Int32.ofInt z)), (2, .double x)] → W p l e ({ frames := 0, cells := 0, slots := 0, locals := 0 }) s m ([.int p0] : List Value).toArray below meth c s.heap [] 0 0 (MQ below (vp_Sf (fun _ => True)) ([.int p0] : List Value).toArray s 0 0 (fun _ => False)) (F0 m 59 ls []) := by
    intro z n
    induction n with
    | zero =>
      intro k x ls z1 z2 hk hn hl
      refine lv_iload hx hb dX4_floatOf_59 (lv_at hl 0 rfl) ?_
      refine lv_iload_n hx hb dX4_floatOf_61 rfl (lv_at hl 1 rfl) ?_
      refine lv_icmp_le (tgt := 77) hx hb dX4_floatOf_62 (by decide) (fun _ => ?_) (fun h => absurd (by rw [kk_le, oi_toInt (by omega) (by omega), oi_toInt (by omega) (by omega)]; omega) h)
      exact last x ls hn (lv_sub hl [2] rfl)
    | succ n ih =>
      intro k x ls z1 z2 hk hn hl
      refine lv_iload hx hb dX4_floatOf_59 (lv_at hl 0 rfl) ?_
      refine lv_iload_n hx hb dX4_floatOf_61 rfl (lv_at hl 1 rfl) ?_
      refine lv_icmp_le (tgt := 77) hx hb dX4_floatOf_62 (by decide) (fun h => absurd h (by rw [kk_le, oi_toInt (by omega) (by omega), oi_toInt (by omega) (by omega)]; omega)) (fun _ => ?_)
      refine lv_dload_n hx hb dX4_floatOf_65 rfl (lv_at hl 2 rfl) ?_
      refine lv_ldc2d (v := 4611686018427387904) hx hb hown (hts _ w_598) dX4_floatOf_66 ?_
      refine lv_ddiv hx hb dX4_floatOf_69 (nn64 (nn_div2 hn)) ?_
      refine lv_dstore_n (lv' := [(2, .double (FP.ddiv x 4611686018427387904)), (4, .int (Int32.ofInt (-(k : Int)))), (1, .int (Int32.ofInt z))]) hx hb dX4_floatOf_70 rfl hl (by decide) rfl (fun ls hl => ?_)
      refine lv_iinc (v := Int32.ofInt (-((k + 1 : Nat) : Int))) (lv' := [(4, .int (Int32.ofInt (-((k + 1 : Nat) : Int)))), (2, .double (FP.ddiv x 4611686018427387904)), (1, .int (Int32.ofInt z))]) hx hb dX4_floatOf_71 hl (k := 1) rfl (by rw [oi_add]; congr 1; omega) (by decide) rfl (fun ls hl => ?_)
      refine lv_goto (tgt := 59) hx hb dX4_floatOf_74 (by decide) ?_
      exact ih (k + 1) _ ls z1 z2 (by omega) (nn_div2 hn) (lv_sub hl [0, 2, 1] rfl)
  have loop1 : ∀ (z : Int) (n k : Nat) (x : UInt64) (ls : Array Slot), -150 ≤ z → z ≤ 361 → k + n = z.toNat → ¬ FP.Core.val64 x = .nan → lv_has ls 5 [(4, .int (nI k)), (1, .int (Int32.ofInt z)), (2, .double x)] → W p l e ({ frames := 0, cells := 0, slots := 0, locals := 0 }) s m ([.int p0] : List Value).toArray below meth c s.heap [] 0 0 (MQ below (vp_Sf (fun _ => True)) ([.int p0] : List Value).toArray s 0 0 (fun _ => False)) (F0 m 38 ls []) := by
    intro z n
    induction n with
    | zero =>
      intro k x ls z1 z2 hk hn hl
      refine lv_iload hx hb dX4_floatOf_38 (lv_at hl 0 rfl) ?_
      refine lv_iload_n hx hb dX4_floatOf_40 rfl (lv_at hl 1 rfl) ?_
      refine lv_icmp_ge (tgt := 56) hx hb dX4_floatOf_41 (by decide) (fun _ => ?_) (fun h => absurd (show Int32.ofInt z ≤ nI k by rw [kk_le, oi_toInt (by omega) (by omega), nI_toInt (by omega)]; omega) h)
      refine lv_iconst (v := Int32.ofInt (-((0 : Nat) : Int))) hx hb dX4_floatOf_56 (by decide) ?_
      refine lv_istore (lv' := [(4, .int (Int32.ofInt (-((0 : Nat) : Int)))), (1, .int (Int32.ofInt z)), (2, .double x)]) hx hb dX4_floatOf_57 hl (by decide) rfl (fun ls hl => ?_)
      exact loop2 z (-z).toNat 0 x ls z1 z2 (by omega) hn hl
    | succ n ih =>
      intro k x ls z1 z2 hk hn hl
      refine lv_iload hx hb dX4_floatOf_38 (lv_at hl 0 rfl) ?_
      refine lv_iload_n hx hb dX4_floatOf_40 rfl (lv_at hl 1 rfl) ?_
      refine lv_icmp_ge (tgt := 56) hx hb dX4_floatOf_41 (by decide) (fun h => absurd h (show ¬ Int32.ofInt z ≤ nI k by rw [kk_le, oi_toInt (by omega) (by omega), nI_toInt (by omega)]; omega)) (fun _ => ?_)
      refine lv_dload_n hx hb dX4_floatOf_44 rfl (lv_at hl 2 rfl) ?_
      refine lv_ldc2d (v := 4611686018427387904) hx hb hown (hts _ w_598) dX4_floatOf_45 ?_
      refine lv_dmul hx hb dX4_floatOf_48 (nn64 (nn_mul2 hn)) ?_
      refine lv_dstore_n (lv' := [(2, .double (FP.dmul x 4611686018427387904)), (4, .int (nI k)), (1, .int (Int32.ofInt z))]) hx hb dX4_floatOf_49 rfl hl (by decide) rfl (fun ls hl => ?_)
      refine lv_iinc (v := nI (k + 1)) (lv' := [(4, .int (nI (k + 1))), (2, .double (FP.dmul x 4611686018427387904)), (1, .int (Int32.ofInt z))]) hx hb dX4_floatOf_50 hl (k := 1) rfl (nI_1 k) (by decide) rfl (fun ls hl => ?_)
      refine lv_goto (tgt := 38) hx hb dX4_floatOf_53 (by decide) ?_
      exact ih (k + 1) _ ls z1 z2 (by omega) (nn_mul2 hn) (lv_sub hl [0, 2, 1] rfl)
  have at35 : ∀ (z : Int) (x : UInt64) (ls : Array Slot), -150 ≤ z → z ≤ 361 → ¬ FP.Core.val64 x = .nan → lv_has ls 5 [(1, .int (Int32.ofInt z)), (2, .double x)] → W p l e ({ frames := 0, cells := 0, slots := 0, locals := 0 }) s m ([.int p0] : List Value).toArray below meth c s.heap [] 0 0 (MQ below (vp_Sf (fun _ => True)) ([.int p0] : List Value).toArray s 0 0 (fun _ => False)) (F0 m 35 ls []) := by
    intro z x ls z1 z2 hn hl
    refine lv_iconst (v := nI 0) hx hb dX4_floatOf_35 (by decide) ?_
    refine lv_istore (lv' := [(4, .int (nI 0)), (1, .int (Int32.ofInt z)), (2, .double x)]) hx hb dX4_floatOf_36 hl (by decide) rfl (fun ls hl => ?_)
    exact loop1 z z.toNat 0 x ls z1 z2 (by omega) hn hl
  obtain ⟨k, hk, ek⟩ := ushr23 p0
  refine lv_iload_n hx hb dX4_floatOf_0 rfl (lv_at hl 0 rfl) ?_
  refine lv_bipush (v := 23) hx hb dX4_floatOf_1 (by decide) ?_
  refine lv_iushr hx hb dX4_floatOf_3 ek ?_
  refine lv_sipush (v := 150) hx hb dX4_floatOf_4 (by decide) ?_
  refine lv_isub hx hb dX4_floatOf_7 ?_
  rw [show nI k - 150 = Int32.ofInt ((k : Int) - 150) by rw [show nI k = Int32.ofInt (k : Int) from rfl, show (150 : Int32) = Int32.ofInt 150 from rfl, ← Int32.ofInt_sub]]
  refine lv_istore_n (lv' := [(1, .int (Int32.ofInt ((k : Int) - 150))), (0, .int p0)]) hx hb dX4_floatOf_8 rfl hl (by decide) rfl (fun ls hl => ?_)
  refine lv_iload_n hx hb dX4_floatOf_9 rfl (lv_at hl 1 rfl) ?_
  refine lv_ldc (v := 8388607) hx hb hown (hts _ w_682) dX4_floatOf_10 ?_
  refine lv_iand hx hb dX4_floatOf_12 ?_
  refine lv_ldc (v := 8388608) hx hb hown (hts _ w_683) dX4_floatOf_13 ?_
  refine lv_iadd hx hb dX4_floatOf_15 ?_
  refine lv_topi (fun w0 _ => ?_)
  refine lv_i2d hx hb dX4_floatOf_16 ?_
  have hw := nn_i2d w0
  refine lv_dstore_n (lv' := [(2, .double (FP.i2d w0)), (1, .int (Int32.ofInt ((k : Int) - 150))), (0, .int p0)]) hx hb dX4_floatOf_17 rfl hl (by decide) rfl (fun ls hl => ?_)
  refine lv_iload_n hx hb dX4_floatOf_18 rfl (lv_at hl 1 rfl) ?_
  refine lv_sipush (v := -150) hx hb dX4_floatOf_19 (by decide) ?_
  refine lv_icmp_ne (tgt := 35) hx hb dX4_floatOf_22 (by decide) (fun _ => ?_) (fun _ => ?_)
  · exact at35 ((k : Int) - 150) _ ls (by omega) (by omega) hw (lv_sub hl [1, 0] rfl)
  · refine lv_sipush (v := Int32.ofInt (-149)) hx hb dX4_floatOf_25 (by decide) ?_
    refine lv_istore_n (lv' := [(1, .int (Int32.ofInt (-149))), (2, .double (FP.i2d w0)), (0, .int p0)]) hx hb dX4_floatOf_28 rfl hl (by decide) rfl (fun ls hl => ?_)
    refine lv_dload_n hx hb dX4_floatOf_29 rfl (lv_at hl 1 rfl) ?_
    refine lv_ldc2d (v := 4710765210229538816) hx hb hown (hts _ w_600) dX4_floatOf_30 ?_
    refine lv_dsub hx hb dX4_floatOf_33 (nn64 (nn_sub hw)) ?_
    refine lv_dstore_n (lv' := [(2, .double (FP.dsub (FP.i2d w0) 4710765210229538816)), (1, .int (Int32.ofInt (-149))), (0, .int p0)]) hx hb dX4_floatOf_34 rfl hl (by decide) rfl (fun ls hl => ?_)
    exact at35 (-149) _ ls (by decide) (by decide) (nn_sub hw) (lv_sub hl [1, 0] rfl)
