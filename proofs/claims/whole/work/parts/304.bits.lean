-- bits
theorem i32n {a : Nat} (h : a < 2147483648) : (Int32.ofInt (a : Int)).toBitVec.toNat = a := by
  rw [Int32.toBitVec_ofInt, BitVec.ofInt_natCast, BitVec.toNat_ofNat]
  exact Nat.mod_eq_of_lt (by omega)
theorem i32t {x : Int32} (h : x.toBitVec.toNat < 2147483648) : x.toInt = (x.toBitVec.toNat : Int) := by
  rw [← Int32.toInt_toBitVec, BitVec.toInt_eq_toNat_of_lt (by omega)]
theorem b_and_n {a b : Nat} (ha : a < 2147483648) (hb : b < 2147483648) : b_and (a : Int) (b : Int) = ((a &&& b : Nat) : Int) := by
  have h : (Int32.ofInt (a : Int) &&& Int32.ofInt (b : Int)).toBitVec.toNat = a &&& b := by
    rw [Int32.toBitVec_and, BitVec.toNat_and, i32n ha, i32n hb]
  show (Int32.ofInt (a : Int) &&& Int32.ofInt (b : Int)).toInt = _
  rw [i32t (by rw [h]; exact Nat.lt_of_le_of_lt Nat.and_le_left ha), h]
theorem b_or_n {a b : Nat} (ha : a < 2147483648) (hb : b < 2147483648) : b_or (a : Int) (b : Int) = ((a ||| b : Nat) : Int) := by
  have h : (Int32.ofInt (a : Int) ||| Int32.ofInt (b : Int)).toBitVec.toNat = a ||| b := by
    rw [Int32.toBitVec_or, BitVec.toNat_or, i32n ha, i32n hb]
  show (Int32.ofInt (a : Int) ||| Int32.ofInt (b : Int)).toInt = _
  rw [i32t (by rw [h]; exact Nat.or_lt_two_pow (n := 31) ha hb), h]
theorem b_and_65535 {x : Int} (h0 : 0 ≤ x) (h1 : x < 2147483648) : b_and x 65535 = x % 65536 := by
  have h := b_and_n (a := x.toNat) (b := 65535) (by omega) (by decide)
  rw [show (x.toNat : Int) = x by omega, show ((65535 : Nat) : Int) = 65535 from rfl, show (65535 : Nat) = 2 ^ 16 - 1 from rfl, Nat.and_two_pow_sub_one_eq_mod] at h
  rw [h]
  omega
theorem b_and_255 {x : Int} (h0 : 0 ≤ x) (h1 : x < 2147483648) : b_and x 255 = x % 256 := by
  have h := b_and_n (a := x.toNat) (b := 255) (by omega) (by decide)
  rw [show (x.toNat : Int) = x by omega, show ((255 : Nat) : Int) = 255 from rfl, show (255 : Nat) = 2 ^ 8 - 1 from rfl, Nat.and_two_pow_sub_one_eq_mod] at h
  rw [h]
  omega
theorem i32i {x : Int} (h : am_R x) : (Int32.ofInt x).toInt = x := by
  rw [Int32.toInt_ofInt, Int32.size, Int.bmod_def]
  split <;> omega
theorem i32m {x : Int} : ((Int32.ofInt x).toBitVec.toNat : Int) = x % 4294967296 := by
  rw [Int32.toBitVec_ofInt, BitVec.toNat_ofInt]
  omega
theorem b_and255 {x : Int} : b_and x 255 = x % 256 := by
  have h : (Int32.ofInt x &&& Int32.ofInt 255).toBitVec.toNat = (Int32.ofInt x).toBitVec.toNat % 256 := by
    rw [Int32.toBitVec_and, BitVec.toNat_and, show (Int32.ofInt 255).toBitVec.toNat = 2 ^ 8 - 1 by decide, Nat.and_two_pow_sub_one_eq_mod]
  have h2 := i32m (x := x)
  show (Int32.ofInt x &&& Int32.ofInt 255).toInt = _
  rw [← Int32.toInt_toBitVec, BitVec.toInt_eq_toNat_of_lt (by rw [h]; omega), h]
  omega
theorem b_and31 {x : Int} : b_and x 31 = x % 32 := by
  have h : (Int32.ofInt x &&& Int32.ofInt 31).toBitVec.toNat = (Int32.ofInt x).toBitVec.toNat % 32 := by
    rw [Int32.toBitVec_and, BitVec.toNat_and, show (Int32.ofInt 31).toBitVec.toNat = 2 ^ 5 - 1 by decide, Nat.and_two_pow_sub_one_eq_mod]
  have h2 := i32m (x := x)
  show (Int32.ofInt x &&& Int32.ofInt 31).toInt = _
  rw [← Int32.toInt_toBitVec, BitVec.toInt_eq_toNat_of_lt (by rw [h]; omega), h]
  omega
theorem shr_e {x s : Int} {n : Nat} (hx : am_R x) (hs : (Int32.ofInt s &&& 31).toBitVec.smod 32 = BitVec.ofNat 32 n) (hn : n < 32) : b_shr x s = x / ((2 ^ n : Nat) : Int) := by
  show (Int32.ofInt x >>> (Int32.ofInt s &&& 31)).toInt = _
  rw [← Int32.toInt_toBitVec, Int32.toBitVec_shiftRight, hs]
  show ((Int32.ofInt x).toBitVec.sshiftRight (BitVec.ofNat 32 n).toNat).toInt = _
  rw [BitVec.toInt_sshiftRight, BitVec.toNat_ofNat, Nat.mod_eq_of_lt (by omega), Int32.toInt_toBitVec, i32i hx, Int.shiftRight_eq_div_pow]
theorem ushr_e {x s : Int} {n : Nat} (hs : ((Int32.ofInt s).toUInt32 &&& Int32.toUInt32 31).toBitVec % 32 = BitVec.ofNat 32 n) (hn : n < 32) : (((Int32.ofInt x).toUInt32 >>> ((Int32.ofInt s).toUInt32 &&& Int32.toUInt32 31)).toInt32.toBitVec.toNat : Int) = (x % 4294967296) / ((2 ^ n : Nat) : Int) := by
  rw [UInt32.toBitVec_toInt32, UInt32.toBitVec_shiftRight, hs, Int32.toBitVec_toUInt32]
  show (((Int32.ofInt x).toBitVec >>> (BitVec.ofNat 32 n).toNat).toNat : Int) = _
  rw [BitVec.toNat_ushiftRight, BitVec.toNat_ofNat, Nat.mod_eq_of_lt (by omega), Nat.shiftRight_eq_div_pow, Int.natCast_ediv, i32m]
theorem byte_e {v : Int} : b_byte v % 256 = v % 256 := by
  show (Int32.ofInt v).toInt8.toInt32.toInt % 256 = _
  rw [Int8.toInt_toInt32, Int32.toInt_toInt8, Int32.toInt_ofInt, Int32.size, Int.bmod_def, Int.bmod_def]
  repeat' split
  all_goals omega
theorem feed_b {x s : Int} (hx : am_R x) (hs : s = 24 ∨ s = 16 ∨ s = 8 ∨ s = 0) : b_and (b_byte (b_byte (b_shr x s))) 255 = b_and (b_ushr x s) 255 := by
  rw [b_and255, b_and255, byte_e, byte_e]
  rcases hs with rfl | rfl | rfl | rfl
  · rw [shr_e (n := 24) hx (by decide) (by decide)]
    have h := ushr_e (x := x) (s := 24) (n := 24) (by decide) (by decide)
    show _ = ((Int32.ofInt x).toUInt32 >>> ((Int32.ofInt 24).toUInt32 &&& Int32.toUInt32 31)).toInt32.toInt % 256
    rw [← Int32.toInt_toBitVec, BitVec.toInt_eq_toNat_bmod, h, Int.bmod_def]
    split <;> omega
  · rw [shr_e (n := 16) hx (by decide) (by decide)]
    have h := ushr_e (x := x) (s := 16) (n := 16) (by decide) (by decide)
    show _ = ((Int32.ofInt x).toUInt32 >>> ((Int32.ofInt 16).toUInt32 &&& Int32.toUInt32 31)).toInt32.toInt % 256
    rw [← Int32.toInt_toBitVec, BitVec.toInt_eq_toNat_bmod, h, Int.bmod_def]
    split <;> omega
  · rw [shr_e (n := 8) hx (by decide) (by decide)]
    have h := ushr_e (x := x) (s := 8) (n := 8) (by decide) (by decide)
    show _ = ((Int32.ofInt x).toUInt32 >>> ((Int32.ofInt 8).toUInt32 &&& Int32.toUInt32 31)).toInt32.toInt % 256
    rw [← Int32.toInt_toBitVec, BitVec.toInt_eq_toNat_bmod, h, Int.bmod_def]
    split <;> omega
  · rw [shr_e (n := 0) hx (by decide) (by decide)]
    have h := ushr_e (x := x) (s := 0) (n := 0) (by decide) (by decide)
    show _ = ((Int32.ofInt x).toUInt32 >>> ((Int32.ofInt 0).toUInt32 &&& Int32.toUInt32 31)).toInt32.toInt % 256
    rw [← Int32.toInt_toBitVec, BitVec.toInt_eq_toNat_bmod, h, Int.bmod_def]
    split <;> omega
