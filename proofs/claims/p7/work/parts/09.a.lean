def kb (n d : Int32) : Int32 := if 0 ≤ n ∧ n ≤ 99999999 ∧ 1 ≤ d ∧ d ≤ 9999 then (FP.fdiv (FP.i2f n) (FP.i2f d)).toInt32 else -1
def kq (t : Int32) : Int32 := if t < 0 ∨ 99999 < t / 10000 then -1 else kb (t / 10000) (t - t / 10000 * 10000)
def kf (x : UInt32) : Int32 := x.toInt32
def kn (x : UInt32) : Prop := x = 0 ∨ ∃ c q, FP.Core.decode FP.Core.b32 x.toNat = .fin false c q ∧ FP.Core.b32.tails ≤ c
