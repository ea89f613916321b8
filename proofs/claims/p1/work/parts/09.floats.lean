def kb (n d : Int32) : Int32 := if 0 ≤ n ∧ n ≤ 99999999 ∧ 1 ≤ d ∧ d ≤ 9999 then (FP.fdiv (FP.i2f n) (FP.i2f d)).toInt32 else -1
def kq (t : Int32) : Int32 := if t < 0 ∨ 99999 < t / 10000 then -1 else kb (t / 10000) (t - t / 10000 * 10000)
def kf (x : UInt32) : Int32 := x.toInt32
def kn (x : UInt32) : Prop := x = 0 ∨ ∃ c q, FP.Core.decode FP.Core.b32 x.toNat = .fin false c q ∧ FP.Core.b32.tails ≤ c
theorem c_X4_bitsOf (l : Launch) (D : va_G) (cB cI cJ cD : ClassId) (p0 : UInt32) (sz : Nat) (hn : kn p0) : Met l yX4_bitsOf (kk_W yX4_bitsOf cX4_bitsOf 5 (some .int)) ({ frames := 0, cells := 0, slots := 0, locals := 0 }) (va_Pc [.float p0] (kk_pre D cB cI cJ cD [] sz)) (vp_Si (fun r => r = kf p0)) 0 0 (fun _ => False) := by
  sorry
theorem c_X4_floatOf (l : Launch) (D : va_G) (cB cI cJ cD : ClassId) (p0 : Int32) (sz : Nat) : Met l yX4_floatOf (kk_W yX4_floatOf cX4_floatOf 5 (some .float)) ({ frames := 0, cells := 0, slots := 0, locals := 0 }) (va_Pc [.int p0] (kk_pre D cB cI cJ cD [] sz)) (vp_Sf (fun r => True)) 0 0 (fun _ => False) := by
  sorry
theorem c_X4_keyBits (l : Launch) (D : va_G) (cB cI cJ cD : ClassId) (p0 p1 : Int32) (sz : Nat) : Met l yX4_keyBits (kk_W yX4_keyBits cX4_keyBits 2 (some .int)) ({ frames := 1, cells := 0, slots := 0, locals := 24 }) (va_Pc [.int p0, .int p1] (kk_pre D cB cI cJ cD [] sz)) (vp_Si (fun r => r = kb p0 p1)) 0 0 (fun _ => False) := by
  sorry
theorem c_X4_packedKey (l : Launch) (D : va_G) (cB cI cJ cD : ClassId) (p0 : Int32) (sz : Nat) : Met l yX4_packedKey (kk_W yX4_packedKey cX4_packedKey 1 (some .int)) ({ frames := 2, cells := 0, slots := 0, locals := 45 }) (va_Pc [.int p0] (kk_pre D cB cI cJ cD [] sz)) (vp_Si (fun r => r = kq p0)) 0 0 (fun _ => False) := by
  sorry
