-- the reference reckons
def wkS (o x y : Int) : Int := (opS o x y).getD 0
theorem wkS_R {o x y : Int} (hy : am_R y) : am_R (wkS o x y) := by
  unfold wkS
  cases h : opS o x y with
  | none => decide
  | some v => exact opS_R hy h
theorem R_worked_eq {o x y : Int} {M : am_M} (ho : cpO o ∨ arO o) (rx : am_R x) (ry : am_R y) : R_worked o x y M = some (wkS o x y) := by
  have ro : am_R o := by omega
  unfold R_worked R_worked_103 R_worked_91 R_worked_114 R_worked_125 R_worked_136 wkS opS
  rw [ck_p ro, c_ge_p rx ry, c_le_p rx ry, c_ne_p rx ry]
  by_cases q1 : o = 37
  · rw [if_pos q1, if_pos q1, c_ne_p ry (by decide)]
    by_cases z : y = 0
    · rw [if_neg (fun h => h z), if_pos z]
      rfl
    · rw [if_pos z, if_neg z, ck_p ⟨rx, ry, z⟩, tw_p]
      rfl
  rw [if_neg q1, if_neg q1]
  by_cases q2 : o = 42
  · rw [if_pos q2, if_pos q2]
    rfl
  rw [if_neg q2, if_neg q2]
  by_cases q3 : o = 43
  · rw [if_pos q3, if_pos q3]
    rfl
  rw [if_neg q3, if_neg q3]
  by_cases q4 : o = 45
  · rw [if_pos q4, if_pos q4]
    rfl
  rw [if_neg q4, if_neg q4]
  by_cases q5 : o = 47
  · rw [if_pos q5, if_pos q5, c_ne_p ry (by decide)]
    by_cases z : y = 0
    · rw [if_neg (fun h => h z), if_pos z]
      rfl
    · rw [if_pos z, if_neg z, ck_p ⟨rx, ry, z⟩, tw_p]
      rfl
  rw [if_neg q5, if_neg q5]
  by_cases q6 : o = 60
  · rw [if_pos q6, if_pos q6]
    by_cases z : x < y
    · rw [if_neg (by omega), if_pos z]
      rfl
    · rw [if_pos (by omega), if_neg z]
      rfl
  rw [if_neg q6, if_neg q6]
  by_cases q7 : o = 62
  · rw [if_pos q7, if_pos q7]
    by_cases z : y < x
    · rw [if_neg (by omega), if_pos z]
      rfl
    · rw [if_pos (by omega), if_neg z]
      rfl
  rw [if_neg q7, if_neg q7]
  by_cases z : x = y
  · rw [if_pos z, if_neg (show ¬ (x ≠ y) from fun h => h z)]
    rfl
  · rw [if_neg z, if_pos z]
    rfl
theorem opS_n {o x y : Int} : opS o x y = none ↔ (y = 0 ∧ (o = 47 ∨ o = 37)) := by
  unfold opS
  repeat' split
  all_goals first
    | (constructor <;> intro h <;> first | rfl | (cases h; done) | omega)
theorem op_R {M : am_M} {n : Nat} {x y bx by' o : Int} (hn : n + 2 ≤ 240) (ho : cpO o ∨ arO o) (e1 : M 90 n = x) (e2 : M 90 (n + 1) = y) (e3 : M 91 n = bx) (e4 : M 91 (n + 1) = by') (hx : bx = 0 ∨ bx = 1) (hy : by' = 0 ∨ by' = 1) (rx : am_R x) (ry : am_R y) : R_does o (n : Int) M = some (am_up (am_up M 91 n (if bx = 0 ∧ by' = 0 ∧ ¬ (y = 0 ∧ (o = 47 ∨ o = 37)) then 0 else 1)) 90 n (wkS o x y)) := by
  have ro : am_R o := by omega
  have h120 : ∀ v : Int, v = 0 ∨ v = 1 → R_does_120 o (n : Int) ((n : Int) + 1) (n : Int) v M = some (am_up (am_up M 91 n v) 90 n (wkS o x y)) := fun v hv => by
    unfold R_does_120
    rw [wz_p ⟨by omega, hv⟩, rd_p (by omega), rd_p (by omega), upo (by decide), show ((n : Int)).toNat = n by omega, show ((n : Int) + 1).toNat = n + 1 by omega, e1, e2, R_worked_eq ho rx ry, ob_s, wa_p (by omega), show ((n : Int)).toNat = n by omega]
  unfold R_does R_does_106 R_does_115 R_does_119
  rw [h120 1 (Or.inr rfl), h120 0 (Or.inl rfl), c_eq_p ro (by decide), if_neg (by omega), c_ne_p ro (by decide), if_pos (by omega), rd_p (by omega), rd_p (by omega), rd_p (by omega), show ((n : Int)).toNat = n by omega, show ((n : Int) + 1).toNat = n + 1 by omega, e2, e3, e4, c_ne_p (by omega) (by decide), c_ne_p (by omega) (by decide), c_eq_p ro (by decide), c_ne_p ry (by decide), c_ne_p ro (by decide)]
  by_cases z1 : bx = 0
  · rw [if_neg (fun h => h z1)]
    by_cases z2 : by' = 0
    · rw [if_neg (fun h => h z2)]
      by_cases z3 : o = 47
      · rw [if_pos z3]
        by_cases z : y = 0
        · rw [if_neg (fun h => h z), if_neg (by omega)]
        · rw [if_pos z, if_pos (by omega)]
      · rw [if_neg z3]
        by_cases z4 : o = 37
        · rw [if_neg (fun h => h z4)]
          by_cases z : y = 0
          · rw [if_neg (fun h => h z), if_neg (by omega)]
          · rw [if_pos z, if_pos (by omega)]
        · rw [if_pos z4, if_pos (by omega)]
    · rw [if_pos z2, if_neg (by omega)]
  · rw [if_pos z1, if_neg (by omega)]
theorem jn_R {M : am_M} {n : Nat} {x y bx by' o : Int} (hn : n + 2 ≤ 240) (ho : o = 38 ∨ o = 124) (e1 : M 90 n = x) (e2 : M 90 (n + 1) = y) (e3 : M 91 n = bx) (e4 : M 91 (n + 1) = by') (hx : bx = 0 ∨ bx = 1) (hy : by' = 0 ∨ by' = 1) (rx : am_R x) : R_does o (n : Int) M = some (if bx = 0 ∧ x = (if o = 38 then 1 else 0) then am_up (am_up M 90 n y) 91 n by' else M) := by
  have h16 : R_does_16 o (n : Int) ((n : Int) + 1) M = some (if bx = 0 ∧ x = (if o = 38 then 1 else 0) then am_up (am_up M 90 n y) 91 n by' else M) := by
    unfold R_does_16 R_does_45 R_does_42
    rw [rd_p (by omega), rd_p (by omega), show ((n : Int)).toNat = n by omega, e1, e3, c_ne_p (by omega) (by decide), c_ne_p (by omega) (by decide), c_eq_p rx (by decide), c_eq_p rx (by decide), rd_p (by omega), show ((n : Int) + 1).toNat = n + 1 by omega, e2, wa_p (by omega), show ((n : Int)).toNat = n by omega, rd_p (by omega), upo (show (91 : Nat) ≠ 90 by decide), show ((n : Int) + 1).toNat = n + 1 by omega, e4, wz_p ⟨by omega, hy⟩, show ((n : Int)).toNat = n by omega]
    by_cases z1 : bx = 0
    · rw [if_neg (fun h => h z1)]
      by_cases z2 : o = 38
      · rw [if_neg (fun h => h z2), if_pos z2]
        by_cases z : x = 1
        · rw [if_pos z, if_pos ⟨z1, z⟩]
        · rw [if_neg z, if_neg (fun h => z h.2)]
          rfl
      · rw [if_pos z2, if_neg z2]
        by_cases z : x = 0
        · rw [if_pos z, if_pos ⟨z1, z⟩]
        · rw [if_neg z, if_neg (fun h => z h.2)]
          rfl
    · rw [if_pos z1, if_neg (fun h => z1 h.1)]
  unfold R_does
  rw [h16, c_eq_p (by omega) (by decide), c_ne_p (by omega) (by decide)]
  rcases ho with q | q
  · rw [if_pos q]
  · rw [if_neg (by omega), if_neg (fun h => h q)]
abbrev enR (M : am_M) : Nat → Int := fun j => M 73 (29 + j)
def RK (M : am_M) (x : SX) (b n : Nat) (x2 : Int) : Prop := ∃ N, ((∀ k, k ≠ 90 → k ≠ 91 → N k = M k) ∧ ∀ j, j < n → N 90 j = M 90 j ∧ N 91 j = M 91 j) ∧ (∀ v, x.2.2.2 (enR M) = some v → N 90 n = v ∧ N 91 n = 0) ∧ (x.2.2.2 (enR M) = none → N 91 n = 1) ∧ am_R (N 90 n) ∧ (x.2.2.1 = true → N 90 n = 0 ∨ N 90 n = 1) ∧ ∀ f, R_works_5 (f + x.1) x2 (n : Int) (b : Int) M = R_works_5 f x2 ((n + 1 : Nat) : Int) ((b + x.1 : Nat) : Int) N
def REx (o p : Nat → Int) (b : Nat) (x : SX) : Prop := ∀ (M : am_M) (n : Nat) (x2 : Int), (∀ j, b ≤ j → j < b + x.1 → M 81 j = o j ∧ M 82 j = p j) → (∀ j, j < 7 → am_R (enR M j)) → n + x.1 ≤ 240 → ((b + x.1 : Nat) : Int) ≤ x2 → x2 ≤ 240 → RK M x b n x2
theorem REx.cg {o p o' p' : Nat → Int} {b : Nat} {x : SX} (h : REx o p b x) (e : ∀ j, b ≤ j → j < b + x.1 → o' j = o j ∧ p' j = p j) : REx o' p' b x := fun M n x2 hs => h M n x2 (fun j h1 h2 => by rw [(hs j h1 h2).1, (hs j h1 h2).2, (e j h1 h2).1, (e j h1 h2).2]; exact ⟨rfl, rfl⟩)
theorem wo_1 {M : am_M} {f b : Nat} {x2 x3 v1 : Int} (hb : (b : Int) < x2) (h2 : x2 ≤ 240) (e1 : M 81 b = v1) (r1 : am_R v1) : R_works_5 (f + 1) x2 x3 (b : Int) M = if v1 ≤ 2 then (if v1 ≠ 2 then wz M 91 240 x3 0 fun M3 => rd M3 81 240 (b : Int) fun v4 => c_ne v4 0 (rd M3 82 240 (b : Int) fun v5 => ob (R_valueOf v5 M3) fun v6 => R_works_117 (R_works_5 f) x2 x3 (b : Int) x3 v6 M3) (rd M3 82 240 (b : Int) fun v7 => R_works_117 (R_works_5 f) x2 x3 (b : Int) x3 v7 M3) else rd M 90 240 (x3 - 1) fun v8 => wa M 90 240 (x3 - 1) (1 - v8) fun M9 => R_works_121 (R_works_5 f) x2 x3 (b : Int) M9) else ob (R_does v1 (x3 + -1 - 1) M) fun M11 => R_works_121 (R_works_5 f) x2 (x3 + -1) (b : Int) M11 := by
  rw [R_works_5]
  rw [c_ge_p (by omega) (by omega), if_neg (by omega), rd_p (M := M) (k := 81) (by omega), show ((b : Int)).toNat = b by omega, e1, c_le_p r1 (by decide), rd_p (M := M) (k := 81) (by omega), show ((b : Int)).toNat = b by omega, e1, c_ne_p r1 (by decide), rd_p (M := M) (k := 81) (by omega), show ((b : Int)).toNat = b by omega, e1]
theorem nuX_R {o p : Nat → Int} {b : Nat} {v : Int} (h1 : o b = 0) (h2 : p b = v) (hv : 0 ≤ v ∧ v ≤ 99999) : REx o p b (nuX v) := by
  intro M n x2 hs he hn hb h240
  have hl : (nuX v).1 = 1 := rfl
  have ec := hs b (by omega) (by omega)
  refine ⟨am_up (am_up M 91 n 0) 90 n v, ⟨fun k k1 k2 => by rw [upo k1, upo k2], fun j hj => ⟨by rw [upx (by omega), upo (by decide)], by rw [upo (by decide), upx (by omega)]⟩⟩, fun w hw => ⟨by rw [upj]; exact Option.some.inj hw, by rw [upo (by decide), upj]⟩, fun z => (by cases z), by rw [upj]; omega, fun z => (by cases z), fun f => ?_⟩
  rw [hl, wo_1 (by omega) h240 (ec.1.trans h1) (by decide), if_pos (by decide), if_pos (by decide), wz_p ⟨by omega, Or.inl rfl⟩, rd_p (by omega), show ((n : Int)).toNat = n by omega, show ((b : Int)).toNat = b by omega, upo (show (81 : Nat) ≠ 91 by decide), ec.1, h1, c_ne_p (by decide) (by decide), if_neg (by decide), rd_p (by omega), show ((b : Int)).toNat = b by omega, upo (show (82 : Nat) ≠ 91 by decide), ec.2, h2]
  unfold R_works_117 R_works_121
  rw [wa_p (by omega), show ((n : Int)).toNat = n by omega]
  rfl
def ltC (i : Nat) : Int := if i = 0 then 107 else if i = 1 then 119 else if i = 2 then 97 else if i = 3 then 116 else if i = 4 then 113 else if i = 5 then 102 else 121
theorem valueOf_eq {M : am_M} {i : Nat} (h : i < 7) : R_valueOf (ltC i) M = some (M 73 (29 + i)) := by
  have : i = 0 ∨ i = 1 ∨ i = 2 ∨ i = 3 ∨ i = 4 ∨ i = 5 ∨ i = 6 := by omega
  rcases this with q | q | q | q | q | q | q <;> subst q <;> rfl
theorem leX_R {o p : Nat → Int} {b i : Nat} (h1 : o b = 1) (h2 : p b = ltC i) (hi : i < 7) : REx o p b (leX i) := by
  intro M n x2 hs he hn hb h240
  have hl : (leX i).1 = 1 := rfl
  have ec := hs b (by omega) (by omega)
  refine ⟨am_up (am_up M 91 n 0) 90 n (M 73 (29 + i)), ⟨fun k k1 k2 => by rw [upo k1, upo k2], fun j hj => ⟨by rw [upx (by omega), upo (by decide)], by rw [upo (by decide), upx (by omega)]⟩⟩, fun w hw => ⟨by rw [upj]; exact Option.some.inj hw, by rw [upo (by decide), upj]⟩, fun z => (by cases z), by rw [upj]; exact he i hi, fun z => (by cases z), fun f => ?_⟩
  rw [hl, wo_1 (by omega) h240 (ec.1.trans h1) (by decide), if_pos (by decide), if_pos (by decide), wz_p ⟨by omega, Or.inl rfl⟩, rd_p (by omega), show ((n : Int)).toNat = n by omega, show ((b : Int)).toNat = b by omega, upo (show (81 : Nat) ≠ 91 by decide), ec.1, h1, c_ne_p (by decide) (by decide), if_pos (by decide), rd_p (by omega), show ((b : Int)).toNat = b by omega, upo (show (82 : Nat) ≠ 91 by decide), ec.2, h2, valueOf_eq hi, ob_s, upo (show (73 : Nat) ≠ 91 by decide)]
  unfold R_works_117 R_works_121
  rw [wa_p (by omega), show ((n : Int)).toNat = n by omega]
  rfl
