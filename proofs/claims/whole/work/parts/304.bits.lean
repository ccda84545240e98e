-- bits
theorem i32n {a : Nat} (h : a < 2147483648) : (Int32.ofInt (a : Int)).toBitVec.toNat = a := by
  rw [Int32.toBitVec_ofInt, BitVec.ofInt_natCast, BitVec.toNat_ofNat]
  exact Nat.mod_eq_of_lt (by omega)
theorem i32t {x : Int32} (h : x.toBitVec.toNat < 2147483648) : x.toInt = (x.toBitVec.toNat : Int) := by
  rw [← Int32.toInt_toBitVec, BitVec.toInt_eq_toNat_of_lt (by omega)]
theorem b_and_n {a b : Nat} (ha : a < 2147483648) (hb : b < 2147483648) : b_and (a : Int) (b : Int) = ((a &&& b : Nat) : Int) := by
  have h : (Int32.ofInt (a : Int) &&& Int32.ofInt (b : Int)).toBitVec.toNat = a &&& b := by
    rw [Int32.toBitVec_and, BitVec.toNat_and, i32n ha, i32n hb]
  show (Int32.ofInt (a : Int) &&& Int32.ofInt (b : Int)).toInt = _
  rw [i32t (by rw [h]; exact Nat.lt_of_le_of_lt Nat.and_le_left ha), h]
theorem b_or_n {a b : Nat} (ha : a < 2147483648) (hb : b < 2147483648) : b_or (a : Int) (b : Int) = ((a ||| b : Nat) : Int) := by
  have h : (Int32.ofInt (a : Int) ||| Int32.ofInt (b : Int)).toBitVec.toNat = a ||| b := by
    rw [Int32.toBitVec_or, BitVec.toNat_or, i32n ha, i32n hb]
  show (Int32.ofInt (a : Int) ||| Int32.ofInt (b : Int)).toInt = _
  rw [i32t (by rw [h]; exact Nat.or_lt_two_pow (n := 31) ha hb), h]
theorem b_and_65535 {x : Int} (h0 : 0 ≤ x) (h1 : x < 2147483648) : b_and x 65535 = x % 65536 := by
  have h := b_and_n (a := x.toNat) (b := 65535) (by omega) (by decide)
  rw [show (x.toNat : Int) = x by omega, show ((65535 : Nat) : Int) = 65535 from rfl, show (65535 : Nat) = 2 ^ 16 - 1 from rfl, Nat.and_two_pow_sub_one_eq_mod] at h
  rw [h]
  omega
theorem b_and_255 {x : Int} (h0 : 0 ≤ x) (h1 : x < 2147483648) : b_and x 255 = x % 256 := by
  have h := b_and_n (a := x.toNat) (b := 255) (by omega) (by decide)
  rw [show (x.toNat : Int) = x by omega, show ((255 : Nat) : Int) = 255 from rfl, show (255 : Nat) = 2 ^ 8 - 1 from rfl, Nat.and_two_pow_sub_one_eq_mod] at h
  rw [h]
  omega
