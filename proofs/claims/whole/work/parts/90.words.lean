/-! the house: the model's words -/
theorem zbl {x : Int64} {n : Nat} (h : x.toBitVec.toNat = n) (hn : n < 9223372036854775808) : x.toInt = (n : Int) := by
  show x.toBitVec.toInt = _
  rw [BitVec.toInt_eq_toNat_of_lt (by omega), h]
theorem nL_bv {a : Nat} (ha : a < 9223372036854775808) : (Int64.ofInt (a : Int)).toBitVec.toNat = a := by
  show (BitVec.ofInt 64 (a : Int)).toNat = a
  rw [BitVec.toNat_ofInt]
  omega
theorem zlor_n {a b : Nat} (ha : a < 9223372036854775808) (hb : b < 9223372036854775808) : zlor (a : Int) (b : Int) = ((a ||| b : Nat) : Int) := by
  unfold zlor
  refine zbl ?_ (Nat.or_lt_two_pow (n := 63) ha hb)
  show ((Int64.ofInt (a : Int)).toBitVec ||| (Int64.ofInt (b : Int)).toBitVec).toNat = _
  rw [BitVec.toNat_or, nL_bv ha, nL_bv hb]
theorem sh5 : (Int32.ofInt 5).toInt64 &&& 63 = (5 : Int64) := by decide
theorem zlsl_5 {a : Nat} (h : a * 32 < 9223372036854775808) : zlsl (a : Int) 5 = ((a * 32 : Nat) : Int) := by
  unfold zlsl
  rw [sh5]
  refine zbl ?_ h
  show ((Int64.ofInt (a : Int)).toBitVec <<< ((5 : Int64).toBitVec.smod 64)).toNat = _
  rw [BitVec.shiftLeft_eq', show ((5 : Int64).toBitVec.smod 64).toNat = 5 by decide, BitVec.toNat_shiftLeft, nL_bv (by omega), Nat.shiftLeft_eq]
  omega
theorem or32 {a d : Nat} (hd : d < 32) : a * 32 ||| d = a * 32 + d := by
  have := Nat.two_pow_add_eq_or_of_lt (i := 5) (b := d) hd a
  rw [Nat.mul_comm a 32]
  exact this.symm
/-- the letters of a word, five bits each -/
def wpS (T : zD) : Nat → Nat → Nat → Nat
  | 0, _, w => w
  | f + 1, i, w => wpS T f (i + 1) (w * 32 + (T 1 i - 96))
theorem zwd {w d : Nat} (hw : w < 33554432) (hd : d < 32) : zlor (zlsl (w : Int) 5) (d : Int) = ((w * 32 + d : Nat) : Int) := by
  rw [zlsl_5 (by omega), zlor_n (by omega) (by omega), or32 hd]
