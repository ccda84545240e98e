-- words of which the methods' functions are made, and what an answer says of them
section CB
variable {α β : Type}
def ck (c : Prop) [Decidable c] (x : Option α) : Option α := if c then x else none
theorem ck_i {c : Prop} [Decidable c] {x : Option α} {r : α} (h : ck c x = some r) : c ∧ x = some r := by
  unfold ck at h
  split at h
  · exact ⟨by assumption, h⟩
  · cases h
theorem ck_p {c : Prop} [Decidable c] {x : Option α} (h : c) : ck c x = x := if_pos h
def c_eq (x y : Int) (a b : Option α) : Option α := if am_R x ∧ am_R y then (if x = y then a else b) else none
def c_ne (x y : Int) (a b : Option α) : Option α := if am_R x ∧ am_R y then (if x ≠ y then a else b) else none
def c_lt (x y : Int) (a b : Option α) : Option α := if am_R x ∧ am_R y then (if x < y then a else b) else none
def c_ge (x y : Int) (a b : Option α) : Option α := if am_R x ∧ am_R y then (if y ≤ x then a else b) else none
def c_gt (x y : Int) (a b : Option α) : Option α := if am_R x ∧ am_R y then (if y < x then a else b) else none
def c_le (x y : Int) (a b : Option α) : Option α := if am_R x ∧ am_R y then (if x ≤ y then a else b) else none
theorem c_i {p c : Prop} [Decidable p] [Decidable c] {a b : Option α} {r : α} (h : (if p then (if c then a else b) else none) = some r) : p ∧ ((c ∧ a = some r) ∨ (¬ c ∧ b = some r)) := by
  split at h
  · refine ⟨by assumption, ?_⟩
    split at h
    · exact Or.inl ⟨by assumption, h⟩
    · exact Or.inr ⟨by assumption, h⟩
  · cases h
theorem c_eq_i {x y : Int} {a b : Option α} {r : α} (h : c_eq x y a b = some r) : (am_R x ∧ am_R y) ∧ ((am_cc .eq x y ∧ a = some r) ∨ (¬ am_cc .eq x y ∧ b = some r)) := c_i (c := x = y) h
theorem c_ne_i {x y : Int} {a b : Option α} {r : α} (h : c_ne x y a b = some r) : (am_R x ∧ am_R y) ∧ ((am_cc .ne x y ∧ a = some r) ∨ (¬ am_cc .ne x y ∧ b = some r)) := c_i (c := x ≠ y) h
theorem c_lt_i {x y : Int} {a b : Option α} {r : α} (h : c_lt x y a b = some r) : (am_R x ∧ am_R y) ∧ ((am_cc .lt x y ∧ a = some r) ∨ (¬ am_cc .lt x y ∧ b = some r)) := c_i (c := x < y) h
theorem c_ge_i {x y : Int} {a b : Option α} {r : α} (h : c_ge x y a b = some r) : (am_R x ∧ am_R y) ∧ ((am_cc .ge x y ∧ a = some r) ∨ (¬ am_cc .ge x y ∧ b = some r)) := c_i (c := y ≤ x) h
theorem c_gt_i {x y : Int} {a b : Option α} {r : α} (h : c_gt x y a b = some r) : (am_R x ∧ am_R y) ∧ ((am_cc .gt x y ∧ a = some r) ∨ (¬ am_cc .gt x y ∧ b = some r)) := c_i (c := y < x) h
theorem c_le_i {x y : Int} {a b : Option α} {r : α} (h : c_le x y a b = some r) : (am_R x ∧ am_R y) ∧ ((am_cc .le x y ∧ a = some r) ∨ (¬ am_cc .le x y ∧ b = some r)) := c_i (c := x ≤ y) h
theorem if_i {c : Prop} [Decidable c] {a b : Option α} {r : α} (h : (if c then a else b) = some r) : (c ∧ a = some r) ∨ (¬ c ∧ b = some r) := by
  split at h
  · exact Or.inl ⟨by assumption, h⟩
  · exact Or.inr ⟨by assumption, h⟩
def rd (M : am_M) (k n : Nat) (i : Int) (f : Int → Option α) : Option α := if 0 ≤ i ∧ i < (n : Int) then f (M k i.toNat) else none
theorem rd_i {M : am_M} {k n : Nat} {i : Int} {f : Int → Option α} {r : α} (h : rd M k n i f = some r) : (0 ≤ i ∧ i < (n : Int)) ∧ ∃ v, v = M k i.toNat ∧ f v = some r := by
  unfold rd at h
  split at h
  · exact ⟨by assumption, _, rfl, h⟩
  · cases h
def wa (M : am_M) (k n : Nat) (i v : Int) (f : am_M → Option α) : Option α := if 0 ≤ i ∧ i < (n : Int) then f (am_up M k i.toNat v) else none
theorem wa_i {M : am_M} {k n : Nat} {i v : Int} {f : am_M → Option α} {r : α} (h : wa M k n i v f = some r) : (0 ≤ i ∧ i < (n : Int)) ∧ ∃ M1, M1 = am_up M k i.toNat v ∧ f M1 = some r := by
  unfold wa at h
  split at h
  · exact ⟨by assumption, _, rfl, h⟩
  · cases h
def wz (M : am_M) (k n : Nat) (i v : Int) (f : am_M → Option α) : Option α := if (0 ≤ i ∧ i < (n : Int)) ∧ (v = 0 ∨ v = 1) then f (am_up M k i.toNat v) else none
theorem wz_i {M : am_M} {k n : Nat} {i v : Int} {f : am_M → Option α} {r : α} (h : wz M k n i v f = some r) : ((0 ≤ i ∧ i < (n : Int)) ∧ (v = 0 ∨ v = 1)) ∧ ∃ M1, M1 = am_up M k i.toNat v ∧ f M1 = some r := by
  unfold wz at h
  split at h
  · exact ⟨by assumption, _, rfl, h⟩
  · cases h
def w8 (M : am_M) (k n : Nat) (i v : Int) (f : am_M → Option α) : Option α := if 0 ≤ i ∧ i < (n : Int) then f (am_up M k i.toNat (Int32.ofInt v).toInt8.toInt32.toInt) else none
theorem w8_i {M : am_M} {k n : Nat} {i v : Int} {f : am_M → Option α} {r : α} (h : w8 M k n i v f = some r) : (0 ≤ i ∧ i < (n : Int)) ∧ ∃ M1, M1 = am_up M k i.toNat (Int32.ofInt v).toInt8.toInt32.toInt ∧ f M1 = some r := by
  unfold w8 at h
  split at h
  · exact ⟨by assumption, _, rfl, h⟩
  · cases h
def fw (M : am_M) (k j : Nat) (v : Int) (f : am_M → Option α) : Option α := f (am_up M k j v)
theorem fw_i {M : am_M} {k j : Nat} {v : Int} {f : am_M → Option α} {r : α} (h : fw M k j v f = some r) : ∃ M1, M1 = am_up M k j v ∧ f M1 = some r := ⟨_, rfl, h⟩
def fz (M : am_M) (k j : Nat) (v : Int) (f : am_M → Option α) : Option α := if v = 0 ∨ v = 1 then f (am_up M k j v) else none
theorem fz_i {M : am_M} {k j : Nat} {v : Int} {f : am_M → Option α} {r : α} (h : fz M k j v f = some r) : (v = 0 ∨ v = 1) ∧ ∃ M1, M1 = am_up M k j v ∧ f M1 = some r := by
  unfold fz at h
  split at h
  · exact ⟨by assumption, _, rfl, h⟩
  · cases h
def nw (M : am_M) (k : Nat) (f : am_M → Option α) : Option α := f (am_zr M k)
theorem nw_i {M : am_M} {k : Nat} {f : am_M → Option α} {r : α} (h : nw M k f = some r) : ∃ M1, M1 = am_zr M k ∧ f M1 = some r := ⟨_, rfl, h⟩
def cpy (M : am_M) (s n0 d n1 : Nat) (sp dp n : Int) (f : am_M → Option α) : Option α := if 0 ≤ n ∧ 0 ≤ dp ∧ 0 ≤ sp ∧ sp + n ≤ (n0 : Int) ∧ dp + n ≤ (n1 : Int) then f (am_cp M s sp.toNat d dp.toNat n.toNat) else none
theorem cpy_i {M : am_M} {s n0 d n1 : Nat} {sp dp n : Int} {f : am_M → Option α} {r : α} (h : cpy M s n0 d n1 sp dp n f = some r) : (0 ≤ n ∧ 0 ≤ dp ∧ 0 ≤ sp ∧ sp + n ≤ (n0 : Int) ∧ dp + n ≤ (n1 : Int)) ∧ ∃ M1, M1 = am_cp M s sp.toNat d dp.toNat n.toNat ∧ f M1 = some r := by
  unfold cpy at h
  split at h
  · exact ⟨by assumption, _, rfl, h⟩
  · cases h
def ob (x : Option α) (f : α → Option β) : Option β := match x with
  | some a => f a
  | none => none
theorem ob_i {x : Option α} {f : α → Option β} {r : β} (h : ob x f = some r) : ∃ a, x = some a ∧ f a = some r := by
  unfold ob at h
  split at h
  · exact ⟨_, rfl, h⟩
  · cases h
theorem ob_s {a : α} {f : α → Option β} : ob (some a) f = f a := rfl
def oc (x : Option (Int × am_M)) (f : Int → am_M → Option β) : Option β := match x with
  | some a => f a.1 a.2
  | none => none
theorem oc_i {x : Option (Int × am_M)} {f : Int → am_M → Option β} {r : β} (h : oc x f = some r) : ∃ a M1, x = some (a, M1) ∧ f a M1 = some r := by
  unfold oc at h
  split at h
  · exact ⟨_, _, rfl, h⟩
  · cases h
theorem oc_s {a : Int} {M1 : am_M} {f : Int → am_M → Option β} : oc (some (a, M1)) f = f a M1 := rfl
def tw (v : Int) (f : Int → Option α) : Option α := f v
theorem tw_i {v : Int} {f : Int → Option α} {r : α} (h : tw v f = some r) : ∃ w, w = v ∧ f w = some r := ⟨_, rfl, h⟩
end CB
/-- more rounds than any loop of any run makes -/
def am_big : Nat := 1000000
abbrev b_and (x y : Int) : Int := am_b2 (fun a b => a &&& b) x y
abbrev b_or (x y : Int) : Int := am_b2 (fun a b => a ||| b) x y
abbrev b_xor (x y : Int) : Int := am_b2 (fun a b => a ^^^ b) x y
abbrev b_shl (x y : Int) : Int := am_b2 (fun a b => a <<< (b &&& 31)) x y
abbrev b_shr (x y : Int) : Int := am_b2 (fun a b => a >>> (b &&& 31)) x y
abbrev b_ushr (x y : Int) : Int := am_b2 (fun a b => (a.toUInt32 >>> (b.toUInt32 &&& Int32.toUInt32 31)).toInt32) x y
abbrev b_byte (x : Int) : Int := (Int32.ofInt x).toInt8.toInt32.toInt
abbrev q_and (x y : Int) : Int := am_bL (fun a b => a &&& b) x y
abbrev q_or (x y : Int) : Int := am_bL (fun a b => a ||| b) x y
abbrev q_shl (x y : Int) : Int := ((Int64.ofInt x) <<< ((Int32.ofInt y).toInt64 &&& 63)).toInt
abbrev q_shr (x y : Int) : Int := ((Int64.ofInt x) >>> ((Int32.ofInt y).toInt64 &&& 63)).toInt
