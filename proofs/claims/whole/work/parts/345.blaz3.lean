-- blazes: to the end
theorem sl_lp {n dn : Nat} {l : Nat → Int} {M : am_M} (hn : n ≤ 8) (hd : dn < 256) (h10 : M 68 10 = n) (hM : ∀ j : Nat, j < n → M 71 j = l j) (hl : ∀ j : Nat, j < n → -2 ≤ l j ∧ l j ≤ 60) : ∀ (k f i : Nat) (a : Int), i + k = n → k < f → am_R a → Overgrowth_soonestLast_68_5 f (dn : Int) a (i : Int) M = some (slL l k i dn a)
  | 0, f + 1, i, a, e, hf, ha => by
    unfold Overgrowth_soonestLast_68_5 Overgrowth_soonestLast_68_44 slL
    rw [h10, c_ge_p (by omega) (by omega), if_pos (by omega)]
  | k + 1, f + 1, i, a, e, hf, ha => by
    have hli := hl i (by omega)
    unfold Overgrowth_soonestLast_68_5 Overgrowth_soonestLast_68_38 slL
    rw [h10, c_ge_p (by omega) (by omega), if_neg (by omega), c_ge_p (by omega) (by omega), if_neg (by omega), bit_at (by omega) (by omega)]
    cases hb : dn.testBit i with
    | true =>
      rw [if_pos rfl, if_pos rfl, c_ne_p (by decide) (by decide), if_pos (by decide), ← sl_lp hn hd h10 hM hl k f (i + 1) a (by omega) (by omega) ha]
      rfl
    | false =>
      rw [if_neg (show ¬ (false = true) by decide), if_neg (show ¬ (false = true) by decide), c_ne_p (by decide) (by decide), if_neg (by decide), rd_p (by omega), show ((i : Int)).toNat = i by omega, hM i (by omega), J_min_eq ha (by omega), ob_s, ← sl_lp hn hd h10 hM hl k f (i + 1) (if l i < a then l i else a) (by omega) (by omega) (by split <;> omega)]
      rfl
theorem fd_47 {n : Nat} {f l : Nat → Int} {M : am_M} {k6 : Int → Int → Int → am_M → Option Int} {dy rd' e : Int} (hn : n ≤ 8) (he : am_R e) (h10 : M 68 10 = n) (hM : ∀ j : Nat, j < n → M 70 j = f j ∧ M 71 j = l j) (hl : ∀ j : Nat, j < n → (-2 ≤ f j ∧ f j ≤ 60) ∧ (-2 ≤ l j ∧ l j ≤ 60)) : ∀ (k fu i dn : Nat), i + k = n → k < fu → dn < 256 → Overgrowth_fewestDays_68_47 k6 fu (dn : Int) dy rd' e (i : Int) M = k6 ((duL f l e k i dn : Nat) : Int) dy (rd' + 1) M
  | 0, fu + 1, i, dn, hi, hf, hd => by
    unfold Overgrowth_fewestDays_68_47 Overgrowth_fewestDays_68_100 duL
    rw [h10, c_ge_p (by omega) (by omega), if_pos (by omega)]
  | k + 1, fu + 1, i, dn, hi, hf, hd => by
    have hli := hl i (by omega)
    obtain ⟨m1, m2⟩ := hM i (by omega)
    have ei : ((i : Int)).toNat = i := by omega
    have ho := (or_bit (m := dn) (i := i) (by omega) (by omega)).1
    have hlt : dn ||| 2 ^ i < 256 := Nat.or_lt_two_pow (n := 8) hd (Nat.lt_of_le_of_lt (Nat.pow_le_pow_right (by decide) (show i ≤ 7 by omega)) (by decide))
    have ih := fun dn' hd' => fd_47 (k6 := k6) (dy := dy) (rd' := rd') hn he h10 hM hl k fu (i + 1) dn' (by omega) (by omega) hd'
    unfold Overgrowth_fewestDays_68_47 Overgrowth_fewestDays_68_94 duL
    rw [h10, c_ge_p (by omega) (by omega), if_neg (by omega), c_ge_p (by omega) (by omega), if_neg (by omega), rd_p (by omega), ei, m1, c_gt_p (by omega) he]
    by_cases q1 : e < f i
    · rw [if_pos q1, if_neg (fun z => by omega), ← ih dn hd]
      rfl
    rw [if_neg q1, rd_p (by omega), ei, m2, c_lt_p (by omega) he]
    by_cases q2 : l i < e
    · rw [if_pos q2, if_neg (fun z => by omega), ← ih dn hd]
      rfl
    · rw [if_neg q2, if_pos (by omega), ho, ← ih _ hlt]
      rfl
theorem duL_lt {f l : Nat → Int} {e : Int} {n dn : Nat} (hd : dn < 2 ^ n) : duL f l e n 0 dn < 2 ^ n := by
  apply Nat.lt_pow_two_of_testBit
  intro j hj
  rw [duL_t, decide_eq_false (by omega), Bool.or_false]
  cases hb : dn.testBit j with
  | false => rfl
  | true =>
    have := bit_n dn hd j hb
    omega
theorem fd_6 {n : Nat} {f l : Nat → Int} {M : am_M} (hn : n ≤ 8) (h10 : M 68 10 = n) (hM : ∀ j : Nat, j < n → M 70 j = f j ∧ M 71 j = l j) (hl : ∀ j : Nat, j < n → (-2 ≤ f j ∧ f j ≤ 60) ∧ (-2 ≤ l j ∧ l j ≤ 60)) : ∀ (k fu dn r : Nat) (dy : Int), r + k = n → k < fu → dn < 2 ^ n → Overgrowth_fewestDays_68_6 fu (dn : Int) dy (r : Int) M = some (gyS n f l k dn dy)
  | 0, fu + 1, dn, r, dy, hr, hf, hd => by
    unfold Overgrowth_fewestDays_68_6 Overgrowth_fewestDays_68_106 gyS
    rw [h10, c_ge_p (by omega) (by omega), if_pos (by omega)]
  | k + 1, fu + 1, dn, r, dy, hr, hf, hd => by
    have hp : 2 ^ n ≤ 2 ^ 8 := Nat.pow_le_pow_right (by decide) hn
    have hp' : 2 ^ n ≤ 256 := hp
    have hp1 : 1 ≤ 2 ^ n := Nat.one_le_two_pow
    unfold Overgrowth_fewestDays_68_6 Overgrowth_fewestDays_68_106 gyS
    rw [h10, c_ge_p (by omega) (by omega), if_neg (by omega), shl_1 (by omega), c_eq_p (by omega) (by omega)]
    by_cases q : dn = 2 ^ n - 1
    · rw [if_pos (by omega), if_pos q]
    · have hs : Overgrowth_soonestLast_68 (dn : Int) M = some (slL l n 0 dn 1000000000) := sl_lp hn (by omega) h10 (fun j hj => (hM j hj).2) (fun j hj => (hl j hj).2) n am_big 0 1000000000 (by omega) (by show _ < 1000000; omega) (by decide)
      obtain ⟨p1, p2, p3⟩ := slL_p (l := l) (dn := dn) n 0 1000000000
      have hsb : -2 ≤ slL l n 0 dn 1000000000 := by
        rcases p1 with z | ⟨j, z1, z2, z3, z4⟩
        · omega
        · have := hl j (by omega)
          omega
      rw [if_neg (by omega), if_neg q, hs, ob_s, c_ge_p (by omega) (by omega)]
      by_cases q2 : slL l n 0 dn 1000000000 < 0
      · rw [if_neg (by omega), if_pos q2]
      · rw [if_pos (by omega), if_neg q2]
        have := fd_47 (k6 := Overgrowth_fewestDays_68_6 fu) (dy := dy + 1) (rd' := (r : Int)) (e := slL l n 0 dn 1000000000) hn (by omega) h10 hM hl n am_big 0 dn (by omega) (by show _ < 1000000; omega) (by omega)
        rw [← fd_6 hn h10 hM hl k fu _ (r + 1) (dy + 1) (by omega) (by omega) (duL_lt hd)]
        exact this
-- the reference
def BM (F : FT) (g : am_M) (D : Int) (i m : Nat) : Prop := m < 2 ^ 61 ∧ ∀ d, d ≤ 60 → m.testBit d = bzB F g D i d
theorem rdb_8 {F : FT} {g t u : am_M} {i : Nat} (hW : PW F g t u) (hi : i < 8) : ∀ (k f d m : Nat) (M : am_M), d + k = 61 → k < f → PR F g t u M → m < 2 ^ d → (∀ j, j < d → m.testBit j = bzB F g (t 0 4) i j) → ∃ (m' : Nat) (N : am_M), R_daysOfBlaze_8 f (i : Int) (m : Int) (gqS F (g 1 (4 * i)) (g 1 (4 * i + 1)) (t 0 4) d) (d : Int) M = some ((m' : Int), N) ∧ BM F g (t 0 4) i m' ∧ LG M N
  | 0, f + 1, d, m, M, e, hf, hR, hm, hj => by
    have hd : d = 61 := by omega
    subst hd
    refine ⟨m, M, ?_, ⟨hm, fun d hd => hj d (by omega)⟩, LG.rf⟩
    unfold R_daysOfBlaze_8
    rw [c_gt_p (by omega) (by omega), if_pos (by omega)]
  | k + 1, f + 1, d, m, M, e, hf, hR, hm, hj => by
    have hl := hW.2.1.1
    have hF := hW.2.2.2.2
    have b0 := hW.1.2.1 (4 * i) (by omega)
    have b1 := hW.1.2.1 (4 * i + 1) (by omega)
    have b2 := hW.1.2.1 (4 * i + 2) (by omega)
    have b3 := hW.1.2.1 (4 * i + 3) (by omega)
    have ta : ∀ o : Nat, o < 4 → R_byteAt (4 * (i : Int) + o) M = some (g 1 (4 * i + o)) := fun o ho => by
      rw [R_byteAt_eq hR.1 (by omega) (by omega), show (4 * (i : Int) + (o : Int)).toNat = 4 * i + o by omega]
    have t0 : R_byteAt (4 * (i : Int)) M = some (g 1 (4 * i)) := by
      have := ta 0 (by decide)
      rw [show 4 * (i : Int) + ((0 : Nat) : Int) = 4 * (i : Int) by omega] at this
      exact this
    have t1 : R_byteAt (4 * (i : Int) + 1) M = some (g 1 (4 * i + 1)) := ta 1 (by decide)
    have t2 : R_byteAt (4 * (i : Int) + 2) M = some (g 1 (4 * i + 2)) := ta 2 (by decide)
    have t3 : R_byteAt (4 * (i : Int) + 3) M = some (g 1 (4 * i + 3)) := ta 3 (by decide)
    have hq := gqS_b hF (g 1 (4 * i)) (g 1 (4 * i + 1)) (t 0 4) d
    have hb := hF.1 103 20 (E7 (g 1 (4 * i)) (g 1 (4 * i + 1)) 0 0 (gqS F (g 1 (4 * i)) (g 1 (4 * i + 1)) (t 0 4) d) 0 (t 0 4)) (by decide)
    have e45 : M 73 45 = t 0 4 := hR.2.1.1.2.2.2.2.1
    obtain ⟨N1, a1, a2⟩ := R_growing_eq (k := g 1 (4 * i)) (w := g 1 (4 * i + 1)) (q := gqS F (g 1 (4 * i)) (g 1 (4 * i + 1)) (t 0 4) d) (y := t 0 4) hF hR.2.2.2 (by omega) (by omega) (by omega) (by omega)
    have h51 : ∀ m1 : Nat, m1 < 2 ^ (d + 1) → (∀ j, j < d + 1 → m1.testBit j = bzB F g (t 0 4) i j) → ∃ (m' : Nat) (N : am_M), R_daysOfBlaze_51 (R_daysOfBlaze_8 f) (i : Int) (m1 : Int) (gqS F (g 1 (4 * i)) (g 1 (4 * i + 1)) (t 0 4) d) (d : Int) M = some ((m' : Int), N) ∧ BM F g (t 0 4) i m' ∧ LG M N := by
      intro m1 hm1 hj1
      obtain ⟨m', N, c1, c2, c3⟩ := rdb_8 hW hi k f (d + 1) m1 N1 (by omega) (by omega) (hR.lg a2) hm1 hj1
      refine ⟨m', N, ?_, c2, a2.tr c3⟩
      unfold R_daysOfBlaze_51
      rw [t0, ob_s, t1, ob_s, e45, a1, oc_s, R_held_99 (by omega) (by omega), ob_s, ← c1]
      rfl
    have hpw : 2 ^ d < 2 ^ (d + 1) := Nat.pow_lt_pow_right (by decide) (by omega)
    have hpd : 2 ^ d ≤ 2 ^ 60 := Nat.pow_le_pow_right (by decide) (by omega)
    have hpd' : 2 ^ d ≤ 1152921504606846976 := hpd
    unfold R_daysOfBlaze_8
    rw [c_gt_p (by omega) (by omega), if_neg (by omega), ck_p (by omega), t2, ob_s, ck_p (by omega), t3, ob_s, ck_p (by omega), R_lies_eq (by omega) (by omega) (by omega), ob_s]
    by_cases q : g 1 (4 * i + 2) ≤ gqS F (g 1 (4 * i)) (g 1 (4 * i + 1)) (t 0 4) d ∧ gqS F (g 1 (4 * i)) (g 1 (4 * i + 1)) (t 0 4) d ≤ g 1 (4 * i + 3)
    · have hbz : bzB F g (t 0 4) i d = true := decide_eq_true q
      rw [if_pos q, c_eq_p (by decide) (by decide), if_neg (by decide), q_shl_1 (by omega), q_or_n (by omega) (by omega)]
      refine h51 _ (Nat.or_lt_two_pow (by omega) hpw) (fun j hj2 => ?_)
      rw [Nat.testBit_or, Nat.testBit_two_pow]
      by_cases z : j = d
      · rw [z, decide_eq_true rfl, Bool.or_true, hbz]
      · rw [decide_eq_false (fun w => z w.symm), Bool.or_false]
        exact hj j (by omega)
    · have hbz : bzB F g (t 0 4) i d = false := decide_eq_false q
      rw [if_neg q, c_eq_p (by decide) (by decide), if_pos (by decide)]
      refine h51 m (by omega) (fun j hj2 => ?_)
      by_cases z : j = d
      · rw [z, hbz]
        exact Nat.testBit_lt_two_pow hm
      · exact hj j (by omega)
theorem fo_lp {F : FT} {g : am_M} {D : Int} {i m : Nat} {M : am_M} {s : Int} (hs : s = 0 ∨ s = 1) (hm : BM F g D i m) : ∀ (k f d : Nat) (c : Int), d + k = 61 → k < f → (c = -2 ∨ (0 ≤ c ∧ c ≤ 60)) → R_firstOf_7 f (m : Int) s c (d : Int) M = some (if s = 0 then fiD (bzB F g D i) k d c else laD (bzB F g D i) k d c)
  | 0, f + 1, d, c, e, hf, hc => by
    unfold R_firstOf_7 fiD laD
    rw [c_gt_p (by omega) (by omega), if_pos (by omega), ite_self]
  | k + 1, f + 1, d, c, e, hf, hc => by
    have ih := fun c hc => fo_lp (M := M) hs hm k f (d + 1) c (by omega) (by omega) hc
    unfold R_firstOf_7 R_firstOf_36 R_firstOf_40 fiD laD
    rw [c_gt_p (by omega) (by omega), if_neg (by omega), qbit_at hm.1 (by omega), hm.2 d (by omega)]
    cases hb : bzB F g D i d with
    | true =>
      rw [if_pos rfl, ck_p (by decide), tw_p, if_neg (by decide), if_pos rfl, c_ne_p (by decide) (by decide), if_neg (by decide), c_ne_p (by omega) (by omega)]
      rcases hs with z | z
      · rw [if_neg (fun h => h z), c_ne_p (by omega) (by omega), if_pos z]
        by_cases q : c = -2
        · have := ih (d : Int) (by omega)
          rw [if_pos z] at this
          rw [if_neg (fun h => h q), if_pos ⟨rfl, by omega⟩, ← this]
          rfl
        · have := ih c hc
          rw [if_pos z] at this
          rw [if_pos q, if_neg (fun h => by omega), ← this]
          rfl
      · have := ih (d : Int) (by omega)
        rw [if_neg (by omega)] at this
        rw [if_pos (by omega), if_neg (by omega), if_pos rfl, ← this]
        rfl
    | false =>
      have := ih c hc
      have e1 : (if false = true ∧ c < 0 then (d : Int) else c) = c := if_neg (fun h => by cases h.1)
      have e2 : (if false = true then (d : Int) else c) = c := if_neg (by decide)
      rw [if_neg (show ¬ (false = true) by decide), ck_p (by decide), tw_p, if_neg (by decide), if_neg (by decide), c_ne_p (by decide) (by decide), if_pos (by decide), e1, e2, ← this]
      rfl
theorem bo_lp {F : FT} {g : am_M} {D : Int} {n d : Nat} {M : am_M} (hF : FO F) (hn : n ≤ 8) (hd : d ≤ 60) (hM : ∀ j : Nat, j < n → ∃ m : Nat, M 124 j = m ∧ BM F g D j m) : ∀ (k f i x : Nat), i + k = n → k < f → x < 256 → R_blazesOn_5 f (d : Int) (n : Int) (x : Int) (i : Int) M = some ((duL (fiS' F g D) (laS' F g D) (d : Int) k i x : Nat) : Int)
  | 0, f + 1, i, x, e, hf, hx => by
    unfold R_blazesOn_5 duL
    rw [c_ge_p (by omega) (by omega), if_pos (by omega)]
  | k + 1, f + 1, i, x, e, hf, hx => by
    obtain ⟨m, m1, m2⟩ := hM i (by omega)
    have ih := fun x' hx' => bo_lp hF hn hd hM k f (i + 1) x' (by omega) (by omega) hx'
    have ho := (or_bit (m := x) (i := i) (by omega) (by omega)).1
    have hlt : x ||| 2 ^ i < 256 := Nat.or_lt_two_pow (n := 8) hx (Nat.lt_of_le_of_lt (Nat.pow_le_pow_right (by decide) (show i ≤ 7 by omega)) (by decide))
    have hiv := fl_iv hF g D i d hd
    unfold R_blazesOn_5 R_blazesOn_36 duL
    rw [c_ge_p (by omega) (by omega), if_neg (by omega), rd_p (by omega), show ((i : Int)).toNat = i by omega, m1, qbit_at m2.1 hd, m2.2 d hd]
    cases hb : bzB F g D i d with
    | true =>
      rw [if_pos rfl, ck_p (by decide), tw_p, if_neg (by decide), if_pos rfl, c_ne_p (by decide) (by decide), if_neg (by decide), ho, if_pos (hiv.mp hb), ← ih _ hlt]
      rfl
    | false =>
      have h0 : b_or (x : Int) 0 = (x : Int) := by
        have := b_or_n (a := x) (b := 0) (by omega) (by decide)
        rw [Nat.or_zero] at this
        exact this
      rw [if_neg (show ¬ (false = true) by decide), ck_p (by decide), tw_p, if_neg (by decide), if_neg (by decide), c_ne_p (by decide) (by decide), if_pos (by decide), h0, if_neg (fun z => by rw [hiv.mpr z] at hb; cases hb), ← ih x hx]
      rfl
theorem and_not {S o : Nat} (hS : S < 2147483648) (ho : o < 2147483648) : b_and (S : Int) (b_xor (o : Int) (-1)) = ((sdN S o : Nat) : Int) := by
  have e1 : b_xor (o : Int) (-1) = (Int32.ofInt (o : Int) ^^^ Int32.ofInt (-1)).toInt := rfl
  have e2 : b_and (S : Int) (b_xor (o : Int) (-1)) = (Int32.ofInt (S : Int) &&& Int32.ofInt (b_xor (o : Int) (-1))).toInt := rfl
  rw [e2, e1, Int32.ofInt_toInt]
  have hn : (Int32.ofInt (S : Int) &&& (Int32.ofInt (o : Int) ^^^ Int32.ofInt (-1))).toBitVec.toNat = sdN S o := by
    rw [Int32.toBitVec_and, Int32.toBitVec_xor]
    apply Nat.eq_of_testBit_eq
    intro j
    show ((Int32.ofInt (S : Int)).toBitVec &&& ((Int32.ofInt (o : Int)).toBitVec ^^^ (Int32.ofInt (-1)).toBitVec)).getLsbD j = _
    have hm1 : (Int32.ofInt (-1)).toBitVec = BitVec.allOnes 32 := by decide
    have e5 : (Int32.ofInt (S : Int)).toBitVec.getLsbD j = S.testBit j := by
      show (Int32.ofInt (S : Int)).toBitVec.toNat.testBit j = S.testBit j
      rw [i32n hS]
    have e6 : (Int32.ofInt (o : Int)).toBitVec.getLsbD j = o.testBit j := by
      show (Int32.ofInt (o : Int)).toBitVec.toNat.testBit j = o.testBit j
      rw [i32n ho]
    rw [BitVec.getLsbD_and, BitVec.getLsbD_xor, e5, e6, hm1, BitVec.getLsbD_allOnes, sdN_t]
    by_cases q : j < 32
    · rw [decide_eq_true q]
      cases S.testBit j <;> cases o.testBit j <;> rfl
    · have : S.testBit j = false := Nat.testBit_lt_two_pow (Nat.lt_of_lt_of_le hS (Nat.le_trans (by decide : 2147483648 ≤ 2 ^ 31) (Nat.pow_le_pow_right (by decide) (by omega))))
      rw [this]
      rfl
  have hle := sdN_le S o
  rw [i32t (by rw [hn]; omega), hn]
theorem DP.cg {n : Nat} {on : Nat → Nat} {c c' : Nat → Int} {T : Nat} (h : DP n on c T) (e : ∀ U, U ≤ T → c' U = c U) : DP n on c' T := by
  unfold DP at *
  rw [e T (Nat.le_refl _)]
  refine ⟨h.1, h.2.1, fun q => ⟨fun d hd hlt => ?_, ?_⟩⟩
  · rw [e _ (by omega)]
    exact (h.2.2 q).1 d hd hlt
  · rcases (h.2.2 q).2 with z | ⟨d, d1, d2, d3, d4⟩
    · exact Or.inl z
    · exact Or.inr ⟨d, d1, d2, by rw [e _ (by omega)]; exact d3, by rw [e _ (by omega)]; exact d4⟩
theorem fe_43 {F : FT} {g : am_M} {D : Int} {n S : Nat} {k34 : Int → Int → am_M → Option (Int × am_M)} (hF : FO F) (hn : n ≤ 8) (hS : 1 ≤ S ∧ S < 2 ^ n) : ∀ (k f d : Nat) (M : am_M), d + k = 61 → k < f → (∀ j : Nat, j < n → ∃ m : Nat, M 124 j = m ∧ BM F g D j m) → (∀ T, T < S → 0 ≤ M 125 T ∧ M 125 T ≤ 1000000000) → (0 ≤ M 125 S ∧ M 125 S ≤ 1000000000) → (∀ d', d' < d → sdN S (duL (fiS' F g D) (laS' F g D) (d' : Int) n 0 0) < S → M 125 S ≤ M 125 (sdN S (duL (fiS' F g D) (laS' F g D) (d' : Int) n 0 0)) + 1) → (M 125 S = 1000000000 ∨ ∃ d', d' < d ∧ sdN S (duL (fiS' F g D) (laS' F g D) (d' : Int) n 0 0) < S ∧ M 125 S = M 125 (sdN S (duL (fiS' F g D) (laS' F g D) (d' : Int) n 0 0)) + 1 ∧ M 125 (sdN S (duL (fiS' F g D) (laS' F g D) (d' : Int) n 0 0)) < 1000000000) → ∃ N, R_fewestDays_43 k34 f (n : Int) (S : Int) (d : Int) M = k34 (n : Int) ((S : Int) + 1) N ∧ (∀ T, T ≠ S → N 125 T = M 125 T) ∧ DP n (fun d => duL (fiS' F g D) (laS' F g D) (d : Int) n 0 0) (N 125) S ∧ (∀ c, c ≠ 125 → N c = M c)
  | 0, f + 1, d, M, e, hf, hM, hb, hbS, h1, h2 => by
    refine ⟨M, ?_, fun _ _ => rfl, ⟨hbS, fun z => by omega, fun _ => ⟨fun d' hd' => h1 d' (by omega), ?_⟩⟩, fun _ _ => rfl⟩
    · unfold R_fewestDays_43
      rw [c_gt_p (by omega) (by omega), if_pos (by omega)]
    · rcases h2 with z | ⟨d', z1, z2, z3, z4⟩
      · exact Or.inl z
      · exact Or.inr ⟨d', by omega, z2, z3, z4⟩
  | k + 1, f + 1, d, M, e, hf, hM, hb, hbS, h1, h2 => by
    have hp : 2 ^ n ≤ 2 ^ 8 := Nat.pow_le_pow_right (by decide) hn
    have hp' : 2 ^ n ≤ 256 := hp
    obtain ⟨o, ho⟩ : ∃ o, o = duL (fiS' F g D) (laS' F g D) (d : Int) n 0 0 := ⟨_, rfl⟩
    have hol : o < 256 := by
      have := duL_lt (f := fiS' F g D) (l := laS' F g D) (e := (d : Int)) (n := n) (dn := 0) (Nat.pow_pos (by decide))
      omega
    have hbo : R_blazesOn (d : Int) (n : Int) M = some (o : Int) := by
      rw [ho]
      exact bo_lp hF hn (by omega) hM n am_big 0 0 (by omega) (by show _ < 1000000; omega) (by decide)
    have hle := sdN_le S o
    have h1' : ∀ d', d' < d + 1 → sdN S (duL (fiS' F g D) (laS' F g D) (d' : Int) n 0 0) < S → d' ≠ d → M 125 S ≤ M 125 (sdN S (duL (fiS' F g D) (laS' F g D) (d' : Int) n 0 0)) + 1 := fun d' hd' hlt hne => h1 d' (by omega) hlt
    unfold R_fewestDays_43 R_fewestDays_100
    rw [c_gt_p (by omega) (by omega), if_neg (by omega), hbo, ob_s, and_not (by omega) (by omega), c_ge_p (by omega) (by omega)]
    by_cases q1 : S ≤ sdN S o
    · rw [if_pos (by omega)]
      refine fe_43 hF hn hS k f (d + 1) M (by omega) (by omega) hM hb hbS (fun d' hd' hlt => ?_) ?_
      · by_cases z : d' = d
        · rw [z, ← ho] at hlt
          omega
        · exact h1' d' hd' hlt z
      · rcases h2 with z | ⟨d', z1, z2⟩
        · exact Or.inl z
        · exact Or.inr ⟨d', by omega, z2⟩
    · have bl := hb (sdN S o) (by omega)
      have en : (((sdN S o : Nat) : Int)).toNat = sdN S o := by omega
      have es : ((S : Int)).toNat = S := by omega
      rw [if_neg (by omega), rd_p (by omega), en, rd_p (by omega), es, c_ge_p (by omega) (by omega)]
      by_cases q2 : M 125 S ≤ M 125 (sdN S o) + 1
      · rw [if_pos q2]
        refine fe_43 hF hn hS k f (d + 1) M (by omega) (by omega) hM hb hbS (fun d' hd' hlt => ?_) ?_
        · by_cases z : d' = d
          · rw [z, ← ho]
            exact q2
          · exact h1' d' hd' hlt z
        · rcases h2 with z | ⟨d', z1, z2⟩
          · exact Or.inl z
          · exact Or.inr ⟨d', by omega, z2⟩
      · rw [if_neg q2, rd_p (by omega), en, wa_p (by omega), es]
        have uo : ∀ T, T ≠ S → (am_up M 125 S (M 125 (sdN S o) + 1)) 125 T = M 125 T := fun T hT => upx hT
        have us : (am_up M 125 S (M 125 (sdN S o) + 1)) 125 S = M 125 (sdN S o) + 1 := upj
        obtain ⟨N, a1, a2, a3, a4⟩ := fe_43 (F := F) (g := g) (D := D) (k34 := k34) hF hn hS k f (d + 1) (am_up M 125 S (M 125 (sdN S o) + 1)) (by omega) (by omega) (fun j hj => by rw [upo (by decide)]; exact hM j hj) (fun T hT => by rw [uo T (by omega)]; exact hb T hT) (by rw [us]; omega) (fun d' hd' hlt => by
          rw [us, uo _ (by omega)]
          by_cases z : d' = d
          · rw [z, ← ho]
            omega
          · have := h1' d' hd' hlt z
            omega) (Or.inr ⟨d, by omega, by rw [← ho]; omega, by rw [us, ← ho, uo _ (by omega)], by rw [← ho, uo _ (by omega)]; omega⟩)
        exact ⟨N, a1, fun T hT => by rw [a2 T hT, uo T hT], a3, fun c hc => by rw [a4 c hc, upo hc]⟩
theorem fe_34 {F : FT} {g : am_M} {D : Int} {n : Nat} (hF : FO F) (hn : 1 ≤ n ∧ n ≤ 8) : ∀ (k f S : Nat) (M : am_M), S + k = 2 ^ n → 1 ≤ S → k < f → (∀ j : Nat, j < n → ∃ m : Nat, M 124 j = m ∧ BM F g D j m) → (∀ T, T < S → DP n (fun d => duL (fiS' F g D) (laS' F g D) (d : Int) n 0 0) (M 125) T) → (∀ T, S ≤ T → T < 2 ^ n → M 125 T = 1000000000) → ∃ N, R_fewestDays_34 f (n : Int) (S : Int) M = some (N 125 (2 ^ n - 1), N) ∧ DPA n (fun d => duL (fiS' F g D) (laS' F g D) (d : Int) n 0 0) (N 125) ∧ (∀ c, c ≠ 125 → N c = M c)
  | 0, f + 1, S, M, e, hS, hf, hM, h1, h2 => by
    have hp : 2 ^ n ≤ 2 ^ 8 := Nat.pow_le_pow_right (by decide) hn.2
    have hp' : 2 ^ n ≤ 256 := hp
    refine ⟨M, ?_, fun T hT => h1 T (by omega), fun _ _ => rfl⟩
    unfold R_fewestDays_34
    rw [shl_1 (by omega), c_ge_p (by omega) (by omega), if_pos (by omega), rd_p (by omega), show (((2 ^ n : Nat) : Int) - 1).toNat = 2 ^ n - 1 by omega]
  | k + 1, f + 1, S, M, e, hS, hf, hM, h1, h2 => by
    have hp : 2 ^ n ≤ 2 ^ 8 := Nat.pow_le_pow_right (by decide) hn.2
    have hp' : 2 ^ n ≤ 256 := hp
    have hSF := h2 S (Nat.le_refl _) (by omega)
    obtain ⟨N1, a1, a2, a3, a4⟩ := fe_43 (F := F) (g := g) (D := D) (k34 := R_fewestDays_34 f) hF hn.2 (S := S) ⟨hS, by omega⟩ 61 am_big 0 M (by omega) (by decide) hM (fun T hT => (h1 T hT).1) (by omega) (fun d' hd' => by omega) (Or.inl hSF)
    obtain ⟨N2, b1, b2, b3⟩ := fe_34 (F := F) (g := g) (D := D) hF hn k f (S + 1) N1 (by omega) (by omega) (by omega) (fun j hj => by rw [a4 124 (by decide)]; exact hM j hj) (fun T hT => by
      by_cases z : T = S
      · rw [z]
        exact a3
      · exact (h1 T (by omega)).cg (fun U hU => a2 U (by omega))) (fun T h3 h4 => by rw [a2 T (by omega)]; exact h2 T (by omega) h4)
    refine ⟨N2, ?_, b2, fun c hc => by rw [b3 c hc, a4 c hc]⟩
    unfold R_fewestDays_34
    rw [shl_1 (by omega), c_ge_p (by omega) (by omega), if_neg (by omega), ← b1]
    exact a1
theorem fe_2 {F : FT} {g : am_M} {D : Int} {n : Nat} (hF : FO F) (hn : 1 ≤ n ∧ n ≤ 8) : ∀ (k f i : Nat) (M : am_M), i + k = 2 ^ n → k < f → (∀ j : Nat, j < n → ∃ m : Nat, M 124 j = m ∧ BM F g D j m) → (∀ T, T < i → M 125 T = if T = 0 then 0 else 1000000000) → ∃ N, R_fewestDays_2 f (n : Int) (i : Int) M = some (N 125 (2 ^ n - 1), N) ∧ DPA n (fun d => duL (fiS' F g D) (laS' F g D) (d : Int) n 0 0) (N 125) ∧ (∀ c, c ≠ 125 → N c = M c)
  | 0, f + 1, i, M, e, hf, hM, h1 => by
    have hp : 2 ^ n ≤ 2 ^ 8 := Nat.pow_le_pow_right (by decide) hn.2
    have hp' : 2 ^ n ≤ 256 := hp
    have hp1 : 1 < 2 ^ n := Nat.one_lt_two_pow (by omega)
    obtain ⟨N, a1, a2, a3⟩ := fe_34 (F := F) (g := g) (D := D) hF hn (2 ^ n - 1) am_big 1 M (by omega) (by omega) (by show _ < 1000000; omega) hM (fun T hT => by
      have hT0 : T = 0 := by omega
      subst hT0
      have h0 := h1 0 (by omega)
      rw [if_pos rfl] at h0
      exact ⟨by omega, fun _ => h0, fun z => absurd rfl z⟩) (fun T h3 h4 => by
      have h0 := h1 T (by omega)
      rw [if_neg (by omega)] at h0
      exact h0)
    refine ⟨N, ?_, a2, a3⟩
    unfold R_fewestDays_2
    rw [shl_1 (by omega), c_ge_p (by omega) (by omega), if_pos (by omega)]
    exact a1
  | k + 1, f + 1, i, M, e, hf, hM, h1 => by
    have hp : 2 ^ n ≤ 2 ^ 8 := Nat.pow_le_pow_right (by decide) hn.2
    have hp' : 2 ^ n ≤ 256 := hp
    unfold R_fewestDays_2 R_fewestDays_25
    rw [shl_1 (by omega), c_ge_p (by omega) (by omega), if_neg (by omega), c_ne_p (by omega) (by omega)]
    have st : ∀ a : Int, a = (if i = 0 then 0 else 1000000000) → ∃ N, R_fewestDays_2 f (n : Int) ((i : Int) + 1) (am_up M 125 i a) = some (N 125 (2 ^ n - 1), N) ∧ DPA n (fun d => duL (fiS' F g D) (laS' F g D) (d : Int) n 0 0) (N 125) ∧ (∀ c, c ≠ 125 → N c = M c) := by
      intro a ha
      obtain ⟨N, a1, a2, a3⟩ := fe_2 (F := F) (g := g) (D := D) hF hn k f (i + 1) (am_up M 125 i a) (by omega) (by omega) (fun j hj => by rw [upo (by decide)]; exact hM j hj) (fun T hT => by
        by_cases z : T = i
        · rw [z, upj, ha]
        · rw [upx z]
          exact h1 T (by omega))
      exact ⟨N, a1, a2, fun c hc => by rw [a3 c hc, upo hc]⟩
    by_cases q : i = 0
    · rw [if_neg (by omega), wa_p (by omega), show ((i : Int)).toNat = i by omega]
      exact st 0 (by rw [if_pos q])
    · rw [if_pos (by omega), wa_p (by omega), show ((i : Int)).toNat = i by omega]
      exact st 1000000000 (by rw [if_neg q])
def bzA (F : FT) (g : am_M) (D : Int) (n : Nat) (y : Int) : Int := if y = 0 then gyS n (fiS' F g D) (laS' F g D) n 0 0 else if 10 ≤ y ∧ y < 10 + n then fiS' F g D (y - 10).toNat else if 20 ≤ y ∧ y < 20 + n then laS' F g D (y - 20).toNat else -4
theorem itv_b {F : FT} (hF : FO F) (g : am_M) (D : Int) (n : Nat) : ITV n (fun d => duL (fiS' F g D) (laS' F g D) (d : Int) n 0 0) (fiS' F g D) (laS' F g D) := by
  intro i d hi hd
  rw [duL_t, Nat.zero_testBit, Bool.false_or, decide_eq_true_eq]
  constructor
  · intro z
    exact z.2.2
  · intro z
    exact ⟨by omega, by omega, z⟩
theorem rbz_153 {F : FT} {g t u : am_M} {n : Nat} {y : Int} (hW : PW F g t u) (hn : 1 ≤ n ∧ n ≤ 8) (hy : y = 0 ∨ (10 ≤ y ∧ y < 10 + n) ∨ (20 ≤ y ∧ y < 20 + n)) : ∀ (k f i : Nat) (M : am_M), i + k = n → k < f → PR F g t u M → (∀ j : Nat, j < i → ∃ m : Nat, M 124 j = m ∧ BM F g (t 0 4) j m) → ∃ N, R_blazes_153 f (n : Int) y (i : Int) M = some (bzA F g (t 0 4) n y, N) ∧ PR F g t u N
  | 0, f + 1, i, M, e, hf, hR, hM => by
    have hF := hW.2.2.2.2
    unfold R_blazes_153 R_blazes_223 R_blazes_200
    rw [c_ge_p (by omega) (by omega), if_pos (by omega), c_le_p (by omega) (by omega)]
    by_cases q : y = 0
    · obtain ⟨N, a1, a2, a3⟩ := fe_2 (F := F) (g := g) (D := t 0 4) hF hn (2 ^ n) am_big 0 M (by omega) (by
        have hp : 2 ^ n ≤ 2 ^ 8 := Nat.pow_le_pow_right (by decide) hn.2
        have hp' : 2 ^ n ≤ 256 := hp
        show _ < 1000000
        omega) (fun j hj => hM j (by omega)) (fun T hT => by omega)
      have a1' : R_fewestDays (n : Int) M = some (N 125 (2 ^ n - 1), N) := a1
      have hp1 : 1 ≤ 2 ^ n := Nat.one_le_two_pow
      have hb := (a2 (2 ^ n - 1) (by omega)).1
      have hg := gr_eq hn a2 (itv_b hF g (t 0 4) n) (fun i _ => fl_bd F g (t 0 4) i)
      refine ⟨N, ?_, hR.fa (fun c hc => a3 c (by omega))⟩
      rw [if_pos (by omega), a1', oc_s, c_lt_p (by omega) (by omega)]
      unfold bzA
      rw [if_pos q, ← hg]
      by_cases q2 : N 125 (2 ^ n - 1) < 1000000000
      · rw [if_pos q2, if_pos q2]
      · rw [if_neg q2, if_neg q2]
    · refine ⟨M, ?_, hR⟩
      rw [if_neg (by omega), ck_p (by omega), tw_p, Int.tmod_eq_emod_of_nonneg (by omega), rd_p (by omega), c_lt_p (by omega) (by omega)]
      obtain ⟨m, m1, m2⟩ := hM (y % 10).toNat (by omega)
      rw [m1]
      unfold bzA
      rw [if_neg q]
      by_cases q2 : y < 20
      · have h : R_firstOf (m : Int) 0 M = _ := fo_lp (s := 0) (M := M) (Or.inl rfl) m2 61 am_big 0 (-2) (by omega) (by decide) (Or.inl rfl)
        rw [if_pos rfl] at h
        rw [if_pos q2, if_pos (by omega), h, ob_s, show (y % 10).toNat = (y - 10).toNat by omega]
        rfl
      · have h : R_firstOf (m : Int) 1 M = _ := fo_lp (s := 1) (M := M) (Or.inr rfl) m2 61 am_big 0 (-2) (by omega) (by decide) (Or.inl rfl)
        rw [if_neg (by decide)] at h
        rw [if_neg q2, if_neg (by omega), if_pos (by omega), h, ob_s, show (y % 10).toNat = (y - 20).toNat by omega]
        rfl
  | k + 1, f + 1, i, M, e, hf, hR, hM => by
    obtain ⟨m', N1, a1, a2, a3⟩ := rdb_8 hW (i := i) (by omega) 61 am_big 0 0 M (by omega) (by decide) hR (by decide) (fun j hj => by omega)
    have a1' : R_daysOfBlaze (i : Int) M = some ((m' : Int), N1) := a1
    have hR1 := hR.lg a3
    obtain ⟨N, b1, b2⟩ := rbz_153 hW hn hy k f (i + 1) (am_up N1 124 i (m' : Int)) (by omega) (by omega) (hR1.fa (fun c hc => upo (by omega))) (fun j hj => by
      by_cases z : j = i
      · exact ⟨m', by rw [z, upj], by rw [z]; exact a2⟩
      · obtain ⟨m, m1, m2⟩ := hM j (by omega)
        exact ⟨m, by rw [upx z, a3.1 124 (by decide) (by decide) (by decide)]; exact m1, m2⟩)
    refine ⟨N, ?_, b2⟩
    unfold R_blazes_153
    rw [c_ge_p (by omega) (by omega), if_neg (by omega), a1', oc_s, wa_p (by omega), show ((i : Int)).toNat = i by omega, ← b1]
    rfl
theorem nm_i {x : Int} (h : am_R x) : am_nm x = x := i32i h
theorem nm_b (x : Int) : am_R (am_nm x) := by
  unfold am_nm
  rw [Int32.toInt_ofInt, Int32.size, Int.bmod_def]
  split <;> omega
theorem nm_l {y c n : Int} (hy : am_R y) (hc : c = 10 ∨ c = 20) (hn : 1 ≤ n ∧ n ≤ 8) : (0 ≤ am_nm (y - c) ∧ am_nm (y - c) ≤ n - 1) ↔ (c ≤ y ∧ y < c + n) := by
  unfold am_nm
  rw [Int32.toInt_ofInt, Int32.size, Int.bmod_def]
  split <;> omega
theorem rbz_31 {F : FT} {g t u : am_M} {n : Nat} {y : Int} (hW : PW F g t u) (hn : 1 ≤ n ∧ n ≤ 8) (hy : am_R y) : ∀ (k f i : Nat) (M : am_M), i + k = n → k < f → PR F g t u M → ∃ N, R_blazes_31 f (n : Int) y (i : Int) M = some (if vkS g k i then bzA F g (t 0 4) n y else -3, N) ∧ PR F g t u N
  | 0, f + 1, i, M, e, hf, hR => by
    have hn1 : am_nm ((n : Int) - 1) = (n : Int) - 1 := nm_i (by omega)
    unfold R_blazes_31 R_blazes_151 vkS
    rw [c_ge_p (by omega) (by omega), if_pos (by omega), if_pos rfl, c_eq_p (by omega) (by omega)]
    have fin := fun hy2 => rbz_153 (y := y) hW hn hy2 n am_big 0 M (by omega) (by show _ < 1000000; omega) hR (fun j hj => by omega)
    by_cases q : y = 0
    · rw [if_pos q]
      exact fin (Or.inl q)
    rw [if_neg q, ck_p (nm_b _), hn1, ck_p (by omega), R_lies_eq (nm_b _) (by decide) (by omega), ob_s]
    by_cases q1 : 10 ≤ y ∧ y < 10 + n
    · rw [if_pos ((nm_l (n := (n : Int)) hy (Or.inl rfl) (by omega)).mpr q1), c_ne_p (by decide) (by decide), if_pos (by decide)]
      exact fin (Or.inr (Or.inl q1))
    rw [if_neg (fun z => q1 ((nm_l (n := (n : Int)) hy (Or.inl rfl) (by omega)).mp z)), c_ne_p (by decide) (by decide), if_neg (by decide), ck_p (nm_b _), ck_p (by omega), R_lies_eq (nm_b _) (by decide) (by omega), ob_s]
    by_cases q2 : 20 ≤ y ∧ y < 20 + n
    · rw [if_pos ((nm_l (n := (n : Int)) hy (Or.inr rfl) (by omega)).mpr q2), c_ne_p (by decide) (by decide), if_pos (by decide)]
      exact fin (Or.inr (Or.inr q2))
    · rw [if_neg (fun z => q2 ((nm_l (n := (n : Int)) hy (Or.inr rfl) (by omega)).mp z)), c_ne_p (by decide) (by decide), if_neg (by decide)]
      unfold bzA
      rw [if_neg q, if_neg q1, if_neg q2]
      exact ⟨M, rfl, hR⟩
  | k + 1, f + 1, i, M, e, hf, hR => by
    have b0 := hW.1.2.1 (4 * i) (by omega)
    have b1 := hW.1.2.1 (4 * i + 1) (by omega)
    have b2 := hW.1.2.1 (4 * i + 2) (by omega)
    have b3 := hW.1.2.1 (4 * i + 3) (by omega)
    have e4 : am_nm (4 * (i : Int)) = 4 * (i : Int) := nm_i (by omega)
    have ta : ∀ o : Nat, o < 4 → R_byteAt (am_nm (4 * (i : Int) + o)) M = some (g 1 (4 * i + o)) := fun o ho => by
      rw [nm_i (by omega), R_byteAt_eq hR.1 (by omega) (by omega), show (4 * (i : Int) + (o : Int)).toNat = 4 * i + o by omega]
    have t0 : R_byteAt (4 * (i : Int)) M = some (g 1 (4 * i)) := by
      rw [R_byteAt_eq hR.1 (by omega) (by omega), show (4 * (i : Int)).toNat = 4 * i by omega]
    have t1 : R_byteAt (am_nm (4 * (i : Int) + 1)) M = some (g 1 (4 * i + 1)) := ta 1 (by decide)
    have t2 : R_byteAt (am_nm (4 * (i : Int) + 2)) M = some (g 1 (4 * i + 2)) := ta 2 (by decide)
    have t3 : R_byteAt (am_nm (4 * (i : Int) + 3)) M = some (g 1 (4 * i + 3)) := ta 3 (by decide)
    unfold R_blazes_31 R_blazes_103 vkS
    rw [c_ge_p (by omega) (by omega), if_neg (by omega), e4, t0, ob_s, c_ge_p (by omega) (by omega)]
    by_cases q : vP g i
    · obtain ⟨q1, q2, q3, q4⟩ := q
      obtain ⟨N, a1, a2⟩ := rbz_31 hW hn hy k f (i + 1) M (by omega) (by omega) hR
      refine ⟨N, ?_, a2⟩
      rw [decide_eq_true (⟨q1, q2, q3, q4⟩ : vP g i), Bool.true_and, if_neg (by omega), t1, ob_s, ck_p (by omega), R_lies_eq (by omega) (by decide) (by decide), ob_s, if_pos q2, c_eq_p (by decide) (by decide), if_neg (by decide), t3, ob_s, c_gt_p (by omega) (by omega), if_neg (by omega), t2, ob_s, ob_s, c_le_p (by omega) (by omega), if_pos q4, ← a1]
      rfl
    · refine ⟨M, ?_, hR⟩
      rw [decide_eq_false q, Bool.false_and, if_neg (show ¬ (false = true) by decide)]
      by_cases q1 : 7 ≤ g 1 (4 * i)
      · rw [if_pos q1]
      rw [if_neg q1, t1, ob_s, ck_p (by omega), R_lies_eq (by omega) (by decide) (by decide), ob_s]
      by_cases q2 : 1 ≤ g 1 (4 * i + 1) ∧ g 1 (4 * i + 1) ≤ 4
      · rw [if_pos q2, c_eq_p (by decide) (by decide), if_neg (by decide), t3, ob_s, c_gt_p (by omega) (by omega)]
        by_cases q3 : 99 < g 1 (4 * i + 3)
        · rw [if_pos q3]
        · rw [if_neg q3, t2, ob_s, ob_s, c_le_p (by omega) (by omega), if_neg (fun z => q ⟨by omega, q2, by omega, z⟩)]
      · rw [if_neg q2, c_eq_p (by decide) (by decide), if_pos (by decide)]
theorem bzA_b {F : FT} {g : am_M} {D : Int} {n : Nat} (hn : n ≤ 8) (y : Int) : -4 ≤ bzA F g D n y ∧ bzA F g D n y ≤ 100 := by
  have h1 := gyS_b (n := n) (f := fiS' F g D) (l := laS' F g D) n 0 0 (by decide)
  have h2 := fl_bd F g D (y - 10).toNat
  have h3 := fl_bd F g D (y - 20).toNat
  unfold bzA
  repeat' split
  all_goals omega
theorem P_blazes_ok {n : Nat} {x y : Int} (hx : am_R x) (hy : am_R y) : OK2 n (P_blazes x y) (R_blazes x y) := by
  refine OK2.of (lp := [12, 13, 14, 68, 70, 71]) (lr := [73, 90, 91, 124, 125]) (by decide) (by decide) (fun M r h => (P_blazes_c x y M r h).mo (by decide)) (fun M r h => (R_blazes_c x y M r h).mo (by decide)) (fun F g t u hW => ?_)
  have h1 := hW.1.1
  have hl := hW.2.1.1
  by_cases hc : (1 ≤ x ∧ x ≤ 8) ∧ 4 * x ≤ g 0 0
  · have hex : ((x.toNat : Nat) : Int) = x := by omega
    have hW' := hW.tk
    refine ⟨if vkS (tkS g) x.toNat 0 then bzA F (tkS g) (t 0 4) x.toNat y else -3, F, tkS g, t, u, ?_, hW', fun M hC => ?_, fun M hR => ?_⟩
    · have := bzA_b (F := F) (g := tkS g) (D := t 0 4) (n := x.toNat) (by omega) y
      split <;> omega
    · have h2 := hC.tk (v := 4 * x)
      obtain ⟨M1, hM1⟩ : ∃ M1, M1 = am_up (am_up M 14 2 (4 * x)) 14 1 0 := ⟨_, rfl⟩
      rw [← hM1] at h2
      have e14 : M1 14 2 = 4 * ((x.toNat : Nat) : Int) := by rw [hM1, upx (by decide), upj, hex]
      have e13 : M1 26 13 = t 0 4 := h2.2.1.1.2.2.2.2.1
      have f0 : BZ M1 (am_up M1 68 10 0) := ⟨fun c a1 a2 a3 a4 a5 => upo a3, fun j hj => upx hj⟩
      obtain ⟨N1, a1, a2, a3⟩ := rb_8 hW' (n0 := n) (x := x.toNat) (by omega) x.toNat am_big 0 (am_up M1 68 10 0) (by omega) (by show _ < 1000000; omega) (h2.bz f0) (by rw [upo (by decide)]; exact e14) upj (fun j hj => by omega)
      have f1 := f0.tr a2
      have hC1 := (h2.bz f1).cg (m := n + 1) (fun _ _ => rfl) (by omega)
      have er : Overgrowth_readBlazes_68 x (t 0 4) M1 = some (if vkS (tkS g) x.toNat 0 then 1 else 0, N1) := by
        unfold Overgrowth_readBlazes_68
        rw [fw_p, ← hex]
        exact a1
      refine ⟨N1, ?_, hC1⟩
      unfold P_blazes
      rw [c_lt_p (by omega) (by omega), if_neg (by omega), c_gt_p (by omega) (by omega), if_neg (by omega), Tape_take_eq hW.1 hC.1 (by omega) (by decide) (by decide), if_pos (by omega), oc_s, c_ne_p (by decide) (by decide), if_pos (by decide), ← hM1, e13, er, oc_s]
      by_cases q : vkS (tkS g) x.toNat 0 = true
      · obtain ⟨z1, z2⟩ := a3 q
        rw [if_pos q, if_pos q, c_ne_p (by decide) (by decide), if_pos (by decide), c_ne_p (by omega) (by omega)]
        unfold bzA
        by_cases q0 : y = 0
        · have hf := fd_6 (n := x.toNat) (f := fiS' F (tkS g) (t 0 4)) (l := laS' F (tkS g) (t 0 4)) (M := N1) (by omega) z1 z2 (fun j _ => by have := fl_bd F (tkS g) (t 0 4) j; omega) x.toNat am_big 0 0 0 (by omega) (by show _ < 1000000; omega) (Nat.pow_pos (by decide))
          have hf' : Overgrowth_fewestDays_68 N1 = some (gyS x.toNat (fiS' F (tkS g) (t 0 4)) (laS' F (tkS g) (t 0 4)) x.toNat 0 0) := hf
          rw [if_neg (fun h => h q0), if_pos q0, hf', ob_s]
        · rw [if_pos q0, if_neg q0, hex, c_lt_p (by omega) (by omega)]
          have h92 : (10 ≤ y ∧ y < 10 + x) = False ∨ True := Or.inr trivial
          have e92 : ¬ (10 ≤ y ∧ y < 10 + x) → P_blazes_92 x y N1 = some (if 20 ≤ y ∧ y < 20 + x then laS' F (tkS g) (t 0 4) (y - 20).toNat else -4, N1) := by
            intro _
            unfold P_blazes_92 P_blazes_118
            rw [c_lt_p (by omega) (by omega)]
            by_cases w1 : y < 20
            · rw [if_pos w1, if_neg (by omega)]
            rw [if_neg w1, c_ge_p (by omega) (by omega)]
            by_cases w2 : 20 + x ≤ y
            · rw [if_pos w2, if_neg (by omega)]
            · rw [if_neg w2, if_pos (by omega)]
              unfold Overgrowth_lastDayOf_68 Overgrowth_lastDayOf_68_29
              rw [c_lt_p (by omega) (by omega), if_neg (by omega), z1, c_ge_p (by omega) (by omega), if_neg (by omega), c_ge_p (by omega) (by omega), if_neg (by omega), rd_p (by omega), (z2 _ (by omega)).2, ob_s]
          by_cases q1 : y < 10
          · rw [if_pos q1, if_neg (by omega), e92 (by omega)]
          rw [if_neg q1, c_ge_p (by omega) (by omega)]
          by_cases q2 : 10 + x ≤ y
          · rw [if_pos q2, if_neg (by omega), e92 (by omega)]
          · rw [if_neg q2, if_pos (by omega)]
            unfold Overgrowth_firstDayOf_68 Overgrowth_firstDayOf_68_29
            rw [c_lt_p (by omega) (by omega), if_neg (by omega), z1, c_ge_p (by omega) (by omega), if_neg (by omega), c_ge_p (by omega) (by omega), if_neg (by omega), rd_p (by omega), (z2 _ (by omega)).1, ob_s]
      · rw [if_neg q, if_neg q, c_ne_p (by decide) (by decide), if_neg (by decide)]
    · have e : M 73 1 = g 0 0 := hR.1.1.1
      obtain ⟨N, a1, a2⟩ := rbz_31 (n := x.toNat) (y := y) hW' (by omega) hy x.toNat am_big 0 (am_up M 73 1 0) (by omega) (by show _ < 1000000; omega) hR.tk
      refine ⟨N, ?_, a2⟩
      rw [hex] at a1
      unfold R_blazes
      rw [ck_p hx, R_lies_eq hx (by decide) (by decide), ob_s, if_pos hc.1, c_eq_p (by decide) (by decide), if_neg (by decide), nm_i (by omega), e, c_le_p (by omega) (by omega), if_pos hc.2, fw_p]
      exact a1
  · refine ⟨-1, F, g, t, u, by decide, hW, fun M hC => ⟨M, ?_, hC.cg (fun _ _ => rfl) (by omega)⟩, fun M hR => ⟨M, ?_, hR⟩⟩
    · unfold P_blazes P_blazes_27
      by_cases q1 : x < 1
      · rw [c_lt_p (by omega) (by omega), if_pos q1]
      · rw [c_lt_p (by omega) (by omega), if_neg q1, c_gt_p (by omega) (by omega)]
        by_cases q2 : 8 < x
        · rw [if_pos q2]
        · rw [if_neg q2, Tape_take_eq hW.1 hC.1 (by omega) (by decide) (by decide), if_neg (by omega), oc_s, c_ne_p (by decide) (by decide), if_neg (by decide)]
    · have e : M 73 1 = g 0 0 := hR.1.1.1
      unfold R_blazes R_blazes_22
      rw [ck_p hx, R_lies_eq hx (by decide) (by decide), ob_s]
      by_cases q1 : 1 ≤ x ∧ x ≤ 8
      · rw [if_pos q1, c_eq_p (by decide) (by decide), if_neg (by decide), nm_i (by omega), e, c_le_p (by omega) (by omega), if_neg (fun h => hc ⟨q1, h⟩)]
      · rw [if_neg q1, c_eq_p (by decide) (by decide), if_pos (by decide)]
