theorem ai_t {x : Int} (h : am_R x) : (Int32.ofInt x).toInt = x := by
  rw [Int32.toInt_ofInt]
  obtain ⟨h1, h2⟩ := h
  simp only [Int.bmod, Int32.size]
  omega
theorem ai_t6 {x : Int} (h : am_R6 x) : (Int64.ofInt x).toInt = x := by
  rw [Int64.toInt_ofInt]
  obtain ⟨h1, h2⟩ := h
  simp only [Int.bmod, Int64.size]
  omega
theorem ai_add (x y : Int) : Int32.ofInt x + Int32.ofInt y = Int32.ofInt (x + y) := by
  exact (Int32.ofInt_add x y).symm
theorem ai_sub (x y : Int) : Int32.ofInt x - Int32.ofInt y = Int32.ofInt (x - y) := by
  exact (Int32.ofInt_sub x y).symm
theorem ai_mul (x y : Int) : Int32.ofInt x * Int32.ofInt y = Int32.ofInt (x * y) := by
  exact (Int32.ofInt_mul x y).symm
theorem ai_neg (x : Int) : -Int32.ofInt x = Int32.ofInt (-x) := by
  exact (Int32.ofInt_neg x).symm
theorem ai_mul6 (x y : Int) : Int64.ofInt x * Int64.ofInt y = Int64.ofInt (x * y) := by
  exact (Int64.ofInt_mul x y).symm
theorem ai_nm (x : Int) : Int32.ofInt (am_nm x) = Int32.ofInt x := by
  unfold am_nm
  exact Int32.ofInt_toInt _
theorem ai_to (x : Int32) : Int32.ofInt x.toInt = x := Int32.ofInt_toInt _
theorem ai_to6 (x : Int64) : Int64.ofInt x.toInt = x := Int64.ofInt_toInt _
theorem ai_lt {x y : Int} (hx : am_R x) (hy : am_R y) : Int32.ofInt x < Int32.ofInt y ↔ x < y := by
  rw [Int32.lt_iff_toInt_lt, ai_t hx, ai_t hy]
theorem ai_le {x y : Int} (hx : am_R x) (hy : am_R y) : Int32.ofInt x ≤ Int32.ofInt y ↔ x ≤ y := by
  rw [Int32.le_iff_toInt_le, ai_t hx, ai_t hy]
theorem ai_eq {x y : Int} (hx : am_R x) (hy : am_R y) : Int32.ofInt x = Int32.ofInt y ↔ x = y := by
  constructor
  · intro h
    have := congrArg Int32.toInt h
    rwa [ai_t hx, ai_t hy] at this
  · intro h; rw [h]
theorem ai_eq6 {x y : Int} (hx : am_R6 x) (hy : am_R6 y) : Int64.ofInt x = Int64.ofInt y ↔ x = y := by
  constructor
  · intro h
    have := congrArg Int64.toInt h
    rwa [ai_t6 hx, ai_t6 hy] at this
  · intro h; rw [h]
theorem ai_lt6 {x y : Int} (hx : am_R6 x) (hy : am_R6 y) : Int64.ofInt x < Int64.ofInt y ↔ x < y := by
  rw [Int64.lt_iff_toInt_lt, ai_t6 hx, ai_t6 hy]
theorem ai_z : Int32.ofInt 0 = 0 := rfl
theorem ai_div {x y : Int} (hx : am_R x) (hy : am_R y) : Int32.ofInt x / Int32.ofInt y = Int32.ofInt (x.tdiv y) := by
  apply Int32.toInt_inj.mp
  rw [Int32.toInt_div, ai_t hx, ai_t hy, Int32.toInt_ofInt]
theorem ai_div6 {x y : Int} (hx : am_R6 x) (hy : am_R6 y) : Int64.ofInt x / Int64.ofInt y = Int64.ofInt (x.tdiv y) := by
  apply Int64.toInt_inj.mp
  rw [Int64.toInt_div, ai_t6 hx, ai_t6 hy, Int64.toInt_ofInt]
theorem ai_sub6 (x y : Int) : Int64.ofInt x - Int64.ofInt y = Int64.ofInt (x - y) := by
  exact (Int64.ofInt_sub x y).symm
theorem ai_rem {x y : Int} (hx : am_R x) (hy : am_R y) : Int32.ofInt x - Int32.ofInt x / Int32.ofInt y * Int32.ofInt y = Int32.ofInt (x.tmod y) := by
  rw [ai_div hx hy, ai_mul, ai_sub]
  congr 1
  have := Int.tmod_add_mul_tdiv x y
  rw [Int.mul_comm] at this
  omega
theorem ai_rem6 {x y : Int} (hx : am_R6 x) (hy : am_R6 y) : Int64.ofInt x - Int64.ofInt x / Int64.ofInt y * Int64.ofInt y = Int64.ofInt (x.tmod y) := by
  rw [ai_div6 hx hy, ai_mul6, ai_sub6]
  congr 1
  have := Int.tmod_add_mul_tdiv x y
  rw [Int.mul_comm] at this
  omega
theorem ai_b8 : ∀ n : Int, -128 ≤ n → n < 128 → (Int8.ofInt n).toInt32 = Int32.ofInt n := by
  intro n h1 h2
  apply Int32.toInt_inj.mp
  rw [ai_t ⟨by omega, by omega⟩, Int8.toInt_toInt32, Int8.toInt_ofInt]
  simp only [Int.bmod, Int8.size]
  omega
theorem ai_b16 : ∀ n : Int, -32768 ≤ n → n < 32768 → (Int16.ofInt n).toInt32 = Int32.ofInt n := by
  intro n h1 h2
  apply Int32.toInt_inj.mp
  rw [ai_t ⟨by omega, by omega⟩, Int16.toInt_toInt32, Int16.toInt_ofInt]
  simp only [Int.bmod, Int16.size]
  omega
theorem ai_il {x : Int} (hx : am_R x) : (Int32.ofInt x).toInt64 = Int64.ofInt x := by
  apply Int64.toInt_inj.mp
  rw [Int32.toInt_toInt64, ai_t hx, ai_t6 ⟨by omega, by omega⟩]
theorem ai_cl {x : Int} {n : Nat} (h0 : 0 ≤ x) (h : x < n) (hn : n < 2147483648) : vp_in (Int32.ofInt x) n ∧ (Int32.ofInt x).toNatClampNeg = x.toNat := by
  have hR : am_R x := ⟨by omega, by omega⟩
  constructor
  · rw [vp_in_iff, ai_t hR]; omega
  · show (Int32.ofInt x).toInt.toNat = _
    rw [ai_t hR]
theorem ai_bool {v : Int} (h : v = 0 ∨ v = 1) : narrow .boolean (.int (Int32.ofInt v)) = .int (Int32.ofInt v) ∧ fits .boolean (.int (Int32.ofInt v)) = true := by
  rcases h with rfl | rfl <;> exact ⟨rfl, by decide +kernel⟩
theorem ai_nar (x : Int) : vp_nar .byte (Int32.ofInt x) = Int32.ofInt (Int32.ofInt x).toInt8.toInt32.toInt := by
  rw [vp_nar_byte, ai_to]
