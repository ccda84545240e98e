-- safe
def OK6 (n : Nat) (p : am_M → Option (Int × am_M)) (r : am_M → Option (Int × am_M)) : Prop := ∀ M, IV n M → ∃ v M1 M2, p M = some (v, M1) ∧ r M1 = some (v, M2) ∧ am_R6 v ∧ IV (n + 1) M2
theorem OK6.rd {n : Nat} {p r : am_M → Option (Int × am_M)} (h : ∀ (F : FT) (g t u : am_M), PW F g t u → ∃ v : Int, am_R6 v ∧ (∀ M, PC F g t u n M → ∃ M1, p M = some (v, M1) ∧ LF M M1) ∧ (∀ M, PR F g t u M → ∃ M1, r M = some (v, M1) ∧ LG M M1)) : OK6 n p r := by
  intro M ⟨F, g, t, u, hW, hC, hR⟩
  obtain ⟨v, hv, h1, h2⟩ := h F g t u hW
  obtain ⟨M1, e1, f1⟩ := h1 M hC
  obtain ⟨M2, e2, f2⟩ := h2 M1 (hR.cg (fun k hk => f1 k (by omega) (by omega)))
  exact ⟨v, M1, M2, e1, e2, hv, F, g, t, u, hW, (hC.lf f1).cg (fun k hk => f2.1 k (by omega) (by omega) (by omega)) (by omega), (hR.cg (fun k hk => f1 k (by omega) (by omega))).lg f2⟩
theorem half {b c : Nat} {k : Nat} (h : b < 2 ^ (k + 1)) (hc : 0 < c) (hcb : c < b) : b % c < 2 ^ k := by
  by_cases h1 : c ≤ 2 ^ k
  · exact Nat.lt_of_lt_of_le (Nat.mod_lt _ hc) h1
  · have h2 : b % c ≤ b - c := by
      rw [Nat.mod_eq_sub_mod (by omega)]
      exact Nat.mod_le _ _
    rw [Nat.pow_succ] at h
    omega
theorem cd_st {M : am_M} {a b n : Nat} {r : Int} (ha : a ≤ 1000000000000000000) (hb : b ≤ 1000000000000000000) (h0 : 0 < b) (hr0 : 0 ≤ r) (hr : r < 200) : P_commonDivisor_9 (n + 1) (a : Int) (b : Int) r M = P_commonDivisor_9 n (b : Int) ((a % b : Nat) : Int) (r + 1) M := by
  rw [P_commonDivisor_9]
  simp (disch := omega) only [c_lt_p, c_eq_p, c_ne_p, c_ge_p, c_gt_p, c_le_p, rd_p, wa_p, wz_p, w8_p, fz_p, fw_p, tw_p, ck_p, ob_s, oc_s, if_pos, if_neg, am_upo, up_s, ne_eq, not_true_eq_false, not_false_eq_true, true_or, or_true, true_and, and_true, false_and, and_false, ck_t, reduceIte, Int.tmod_eq_emod_of_nonneg, Int.tdiv_eq_ediv_of_nonneg]
  rw [Int.natCast_emod]
theorem cd_0 {M : am_M} {a n : Nat} {r : Int} (hr0 : 0 ≤ r) (hr : r ≤ 200) : P_commonDivisor_9 (n + 1) (a : Int) ((0 : Nat) : Int) r M = some (a : Int) := by
  rw [show ((0 : Nat) : Int) = 0 from rfl]
  unfold P_commonDivisor_9 P_commonDivisor_45
  by_cases h : r < 200
  · simp (disch := omega) only [c_lt_p, c_eq_p, c_ne_p, c_ge_p, c_gt_p, c_le_p, rd_p, wa_p, wz_p, w8_p, fz_p, fw_p, tw_p, ck_p, ob_s, oc_s, if_pos, if_neg, am_upo, up_s, ne_eq, not_true_eq_false, not_false_eq_true, true_or, or_true, true_and, and_true, false_and, and_false, ck_t, reduceIte, Int.tmod_eq_emod_of_nonneg, Int.tdiv_eq_ediv_of_nonneg]
  · simp (disch := omega) only [c_lt_p, c_eq_p, c_ne_p, c_ge_p, c_gt_p, c_le_p, rd_p, wa_p, wz_p, w8_p, fz_p, fw_p, tw_p, ck_p, ob_s, oc_s, if_pos, if_neg, am_upo, up_s, ne_eq, not_true_eq_false, not_false_eq_true, true_or, or_true, true_and, and_true, false_and, and_false, ck_t, reduceIte, Int.tmod_eq_emod_of_nonneg, Int.tdiv_eq_ediv_of_nonneg]
theorem cd_lp {M : am_M} {B : Nat} (hB : B ≤ 1000000000000000000) : ∀ (k n a b : Nat) (r : Int), b < 2 ^ k → 2 * k + 1 ≤ n → 0 ≤ r → r + 2 * k ≤ 200 → a ≤ B → b ≤ B → P_commonDivisor_9 n (a : Int) (b : Int) r M = some ((Nat.gcd b a : Nat) : Int)
  | 0, 0, a, b, r, hb, hn, h0, hr, ha, hb1 => absurd hn (by omega)
  | k + 1, 0, a, b, r, hb, hn, h0, hr, ha, hb1 => absurd hn (by omega)
  | k + 1, 1, a, b, r, hb, hn, h0, hr, ha, hb1 => absurd hn (by omega)
  | 0, n + 1, a, b, r, hb, hn, h0, hr, ha, hb1 => by
    have : b = 0 := by omega
    subst this
    rw [Nat.gcd_zero_left]
    exact cd_0 h0 (by omega)
  | k + 1, n + 2, a, b, r, hb, hn, h0, hr, ha, hb1 => by
    by_cases q : b = 0
    · subst q
      rw [Nat.gcd_zero_left]
      exact cd_0 h0 (by omega)
    · rw [cd_st (by omega) (by omega) (by omega) h0 (by omega), Nat.gcd_rec]
      have hlt := Nat.mod_lt a (show 0 < b by omega)
      by_cases q2 : a % b = 0
      · rw [q2, Nat.gcd_zero_left]
        exact cd_0 (by omega) (by omega)
      · obtain ⟨n', rfl⟩ : ∃ n', n = n' + 1 := ⟨n - 1, by omega⟩
        rw [cd_st (by omega) (by omega) (by omega) (by omega) (by omega), Nat.gcd_rec]
        exact cd_lp hB k _ _ _ _ (half hb (by omega) hlt) (by omega) (by omega) (by omega) (by omega) (Nat.le_trans (Nat.mod_le _ _) hb1)
theorem dv_st {M : am_M} {a b n : Nat} (ha : a ≤ 1000000000000000000) (hb : b ≤ 1000000000000000000) (h0 : 0 < b) : R_dividing_6 (n + 1) (a : Int) (b : Int) M = R_dividing_6 n (b : Int) ((a % b : Nat) : Int) M := by
  rw [R_dividing_6]
  simp (disch := omega) only [c_lt_p, c_eq_p, c_ne_p, c_ge_p, c_gt_p, c_le_p, rd_p, wa_p, wz_p, w8_p, fz_p, fw_p, tw_p, ck_p, ob_s, oc_s, if_pos, if_neg, am_upo, up_s, ne_eq, not_true_eq_false, not_false_eq_true, true_or, or_true, true_and, and_true, false_and, and_false, ck_t, reduceIte, Int.tmod_eq_emod_of_nonneg, Int.tdiv_eq_ediv_of_nonneg]
  rw [Int.natCast_emod]
theorem dv_0 {M : am_M} {a n : Nat} : R_dividing_6 (n + 1) (a : Int) ((0 : Nat) : Int) M = some (a : Int) := by
  rw [show ((0 : Nat) : Int) = 0 from rfl]
  unfold R_dividing_6
  simp (disch := omega) only [c_lt_p, c_eq_p, c_ne_p, c_ge_p, c_gt_p, c_le_p, rd_p, wa_p, wz_p, w8_p, fz_p, fw_p, tw_p, ck_p, ob_s, oc_s, if_pos, if_neg, am_upo, up_s, ne_eq, not_true_eq_false, not_false_eq_true, true_or, or_true, true_and, and_true, false_and, and_false, ck_t, reduceIte, Int.tmod_eq_emod_of_nonneg, Int.tdiv_eq_ediv_of_nonneg]
theorem dv_lp {M : am_M} {B : Nat} (hB : B ≤ 1000000000000000000) : ∀ (k n a b : Nat), b < 2 ^ k → 2 * k + 1 ≤ n → a ≤ B → b ≤ B → R_dividing_6 n (a : Int) (b : Int) M = some ((Nat.gcd b a : Nat) : Int)
  | 0, n + 1, a, b, hb, hn, ha, hb1 => by
    have : b = 0 := by omega
    subst this
    rw [Nat.gcd_zero_left]
    exact dv_0
  | k + 1, n + 2, a, b, hb, hn, ha, hb1 => by
    by_cases q : b = 0
    · subst q
      rw [Nat.gcd_zero_left]
      exact dv_0
    · rw [dv_st (by omega) (by omega) (by omega), Nat.gcd_rec]
      have hlt := Nat.mod_lt a (show 0 < b by omega)
      by_cases q2 : a % b = 0
      · rw [q2, Nat.gcd_zero_left]
        exact dv_0
      · obtain ⟨n', rfl⟩ : ∃ n', n = n' + 1 := ⟨n - 1, by omega⟩
        rw [dv_st (by omega) (by omega) (by omega), Nat.gcd_rec]
        exact dv_lp hB k _ _ _ (half hb (by omega) hlt) (by omega) (by omega) (Nat.le_trans (Nat.mod_le _ _) hb1)
def gdS (a b : Int) : Int := ((Nat.gcd b.toNat a.toNat : Nat) : Int)
theorem P_commonDivisor_eq {M : am_M} {a b : Int} (ha : 0 ≤ a) (ha1 : a ≤ 1000000000000000000) (hb : 0 ≤ b) (hb1 : b ≤ 1000000000000000000) : P_commonDivisor a b M = some (gdS a b) := by
  have := cd_lp (M := M) (Nat.le_refl _) 60 am_big a.toNat b.toNat 0 (Nat.lt_of_le_of_lt (show b.toNat ≤ 1000000000000000000 by omega) (by decide)) (by decide) (by decide) (by decide) (by omega) (by omega)
  rw [show (a.toNat : Int) = a by omega, show (b.toNat : Int) = b by omega] at this
  exact this
theorem R_dividing_eq {M : am_M} {a b : Int} (ha : 0 ≤ a) (ha1 : a ≤ 1000000000000000000) (hb : 0 ≤ b) (hb1 : b ≤ 1000000000000000000) : R_dividing a b M = some (gdS a b) := by
  have := dv_lp (M := M) (Nat.le_refl _) 60 am_big a.toNat b.toNat (Nat.lt_of_le_of_lt (show b.toNat ≤ 1000000000000000000 by omega) (by decide)) (by decide) (by omega) (by omega)
  rw [show (a.toNat : Int) = a by omega, show (b.toNat : Int) = b by omega] at this
  exact this
theorem gdS_b {a b : Int} (ha : 0 ≤ a) (hb : 1 ≤ b) (hb1 : b ≤ 1000000000000000000) : 1 ≤ gdS a b ∧ gdS a b ≤ 1000000000000000000 := by
  unfold gdS
  have h1 := Nat.gcd_pos_of_pos_left a.toNat (show 0 < b.toNat by omega)
  have h2 := Nat.gcd_le_left a.toNat (show 0 < b.toNat by omega)
  omega
def sfS (F : FT) (g t : am_M) (x : Int) : Nat → Int → Int → Int
  | 0, a, b => if x = 0 then a / gdS a b else b / gdS a b
  | k + 1, a, b => if blS t g ((k : Int) + 1) = 0 then sfS F g t x k a b else sfS F g t x k (a * (10 - erS F g t ((k : Int) + 1))) (b * 10)
theorem sf_in {B m b : Nat} (h : b * 10 ^ (m + 1) ≤ B) : (b * 10) * 10 ^ m ≤ B := by
  rw [Nat.pow_succ] at h
  rw [Nat.mul_assoc, Nat.mul_comm 10]
  exact h
theorem sf_le {B m b : Nat} (h : b * 10 ^ m ≤ B) : b ≤ B := Nat.le_trans (Nat.le_mul_of_pos_right b (Nat.pow_pos (by decide))) h
theorem sf_ab {a e b : Int} (h0 : 0 ≤ a) (h1 : a ≤ b) (h2 : 0 ≤ e) (h3 : e ≤ 10) : 0 ≤ a * (10 - e) ∧ a * (10 - e) ≤ b * 10 := by
  refine ⟨Int.mul_nonneg h0 (by omega), ?_⟩
  exact Int.le_trans (Int.mul_le_mul_of_nonneg_left (show 10 - e ≤ 10 by omega) h0) (Int.mul_le_mul_of_nonneg_right h1 (by decide))
theorem sfS_b {F : FT} (hF : FO F) (g t : am_M) (x : Int) : ∀ (k : Nat) (a b : Int), 0 ≤ a → a ≤ b → 1 ≤ b → b.toNat * 10 ^ (bbS g t k).toNat ≤ 1000000000000000000 → am_R6 (sfS F g t x k a b)
  | 0, a, b, h0, h1, h2, h3 => by
    have h4 := sf_le h3
    have h5 := gdS_b (a := a) h0 h2 (by omega)
    unfold sfS
    split
    · have h6 := Int.ediv_nonneg h0 (show 0 ≤ gdS a b by omega)
      have h7 := Int.ediv_le_self (gdS a b) h0
      omega
    · have h6 := Int.ediv_nonneg (show 0 ≤ b by omega) (show 0 ≤ gdS a b by omega)
      have h7 := Int.ediv_le_self (gdS a b) (show 0 ≤ b by omega)
      omega
  | k + 1, a, b, h0, h1, h2, h3 => by
    have h4 := bbS_b g t k
    unfold sfS
    unfold bbS at h3
    rcases blS_01 t g ((k : Int) + 1) with q | q
    · rw [q, Int.add_zero] at h3
      rw [if_pos q]
      exact sfS_b hF g t x k a b h0 h1 h2 h3
    · rw [q] at h3
      rw [if_neg (by omega)]
      have h5 := erS_b hF g t ((k : Int) + 1)
      have h6 := sf_ab h0 h1 h5.1 h5.2
      refine sfS_b hF g t x k _ _ h6.1 h6.2 (by omega) ?_
      rw [show (bbS g t k + 1).toNat = (bbS g t k).toNat + 1 by omega] at h3
      rw [show (b * 10).toNat = b.toNat * 10 by omega]
      exact sf_in h3
theorem P_safe_z {F : FT} {g t M : am_M} {x a b : Int} (hx : 0 ≤ x ∧ x ≤ 1) {n : Nat} (h0 : 0 ≤ a) (h1 : a ≤ b) (h2 : 1 ≤ b) (h4 : b ≤ 1000000000000000000) : P_safe_43 (n + 1) x a b 0 M = some (sfS F g t x 0 a b, M) := by
  have h5 := gdS_b (a := a) h0 h2 h4
  obtain ⟨z, hz, hz0⟩ : ∃ z, (if gdS a b > 1 then (1 : Int) else if gdS a b = 1 then 0 else -1) = z ∧ 0 ≤ z ∧ z ≤ 1 := ⟨_, rfl, by split <;> omega, by split <;> omega⟩
  have h6 : am_R6 (gdS a b) ∧ am_R6 1 := by omega
  have h7 : am_R6 a ∧ am_R6 (gdS a b) ∧ gdS a b ≠ 0 := by omega
  have h8 : am_R6 b ∧ am_R6 (gdS a b) ∧ gdS a b ≠ 0 := by omega
  unfold P_safe_43 sfS P_safe_125
  by_cases q : x = 0
  · rw [c_le_p (by omega) (by omega), if_pos (by omega), P_commonDivisor_eq (by omega) (by omega) (by omega) (by omega), ob_s, ck_p h6, tw_p, hz, c_ge_p (by omega) (by omega), if_pos hz0.1, c_ne_p (by omega) (by omega), if_neg (by omega), ck_p h7, tw_p, if_pos q, Int.tdiv_eq_ediv_of_nonneg (by omega)]
  · rw [c_le_p (by omega) (by omega), if_pos (by omega), P_commonDivisor_eq (by omega) (by omega) (by omega) (by omega), ob_s, ck_p h6, tw_p, hz, c_ge_p (by omega) (by omega), if_pos hz0.1, c_ne_p (by omega) (by omega), if_pos (by omega), ck_p h8, tw_p, if_neg q, Int.tdiv_eq_ediv_of_nonneg (by omega)]
theorem P_safe_lp {F : FT} {g t : am_M} (hF : FO F) (hg : WG g) (hw : WT t) {x : Int} (hx : 0 ≤ x ∧ x ≤ 1) {B : Nat} (hB : B ≤ 1000000000000000000) : ∀ (k n : Nat) (a b : Int) (M : am_M), (k : Int) < t 0 1 → k < n → 0 ≤ a → a ≤ b → 1 ≤ b → b.toNat * 10 ^ (bbS g t k).toNat ≤ B → LWP F M → GP g M → TP 26 t M → ∃ N, P_safe_43 n x a b (k : Int) M = some (sfS F g t x k a b, N) ∧ LF M N
  | 0, n + 1, a, b, M, hk, hn, h0, h1, h2, h3, hL, hG, hT => by
    have h4 := sf_le h3
    exact ⟨M, P_safe_z hx h0 h1 h2 (by omega), LF.rf⟩
  | k + 1, n + 1, a, b, M, hk, hn, h0, h1, h2, h3, hL, hG, hT => by
    have hl := hw.1
    have h4 := bbS_b g t k
    unfold bbS at h3
    unfold P_safe_43 P_safe_84 sfS
    rw [show (((k + 1 : Nat) : Int)) = (k : Int) + 1 by omega]
    rw [show (k : Int) + 1 + -1 = (k : Int) by omega]
    rcases blS_01 t g ((k : Int) + 1) with q | q
    · rw [q, Int.add_zero] at h3
      obtain ⟨N, e, f⟩ := P_safe_lp hF hg hw hx hB k n a b M (by omega) (by omega) h0 h1 h2 h3 hL hG hT
      refine ⟨N, ?_, f⟩
      simp (disch := omega) only [c_lt_p, c_eq_p, c_ne_p, c_ge_p, c_gt_p, c_le_p, rd_p, wa_p, wz_p, w8_p, fz_p, fw_p, tw_p, ck_p, ob_s, oc_s, if_pos, if_neg, am_upo, up_s, ne_eq, not_true_eq_false, not_false_eq_true, true_or, or_true, true_and, and_true, false_and, and_false, ck_t, reduceIte, Int.tmod_eq_emod_of_nonneg, Int.tdiv_eq_ediv_of_nonneg, Trip_isBlind_26_eq hw hg hT hG, q, e]
    · rw [q] at h3
      have h5 := erS_b hF g t ((k : Int) + 1)
      have h6 := sf_ab h0 h1 h5.1 h5.2
      rw [show (bbS g t k + 1).toNat = (bbS g t k).toNat + 1 by omega] at h3
      obtain ⟨N1, e1, f1⟩ := Trip_wrongTenths_eq (p := (k : Int) + 1) hF hL hg hw hG hT (by omega)
      obtain ⟨N, e, f⟩ := P_safe_lp hF hg hw hx hB k n (a * (10 - erS F g t ((k : Int) + 1))) (b * 10) N1 (by omega) (by omega) h6.1 h6.2 (by omega) (by rw [show (b * 10).toNat = b.toNat * 10 by omega]; exact sf_in h3) (hL.lf f1) (hG.lf f1) (hT.lf f1 (by decide))
      refine ⟨N, ?_, f1.tr f⟩
      simp (disch := omega) only [c_lt_p, c_eq_p, c_ne_p, c_ge_p, c_gt_p, c_le_p, rd_p, wa_p, wz_p, w8_p, fz_p, fw_p, tw_p, ck_p, ob_s, oc_s, if_pos, if_neg, am_upo, up_s, ne_eq, not_true_eq_false, not_false_eq_true, true_or, or_true, true_and, and_true, false_and, and_false, ck_t, reduceIte, Int.tmod_eq_emod_of_nonneg, Int.tdiv_eq_ediv_of_nonneg, Trip_isBlind_26_eq hw hg hT hG, q, e1, e]
theorem R_safe_lp {F : FT} {g t : am_M} (hF : FO F) (hg : WG g) (hw : WT t) {x : Int} (hx : 0 ≤ x ∧ x ≤ 1) {B : Nat} (hB : B ≤ 1000000000000000000) : ∀ (k n : Nat) (a b : Int) (M : am_M), (k : Int) < t 0 1 → k < n → 0 ≤ a → a ≤ b → 1 ≤ b → b.toNat * 10 ^ (bbS g t k).toNat ≤ B → LWR F M → GR g M → TR t M → ∃ N, R_safe_39 n x a b (k : Int) M = some (sfS F g t x k a b, N) ∧ LG M N
  | 0, n + 1, a, b, M, hk, hn, h0, h1, h2, h3, hL, hG, hT => by
    have h4 := sf_le h3
    have h5 := gdS_b (a := a) h0 h2 (by omega)
    refine ⟨M, ?_, LG.rf⟩
    unfold R_safe_39 sfS R_safe_107
    by_cases q : x = 0
    · simp (disch := omega) only [c_lt_p, c_eq_p, c_ne_p, c_ge_p, c_gt_p, c_le_p, rd_p, wa_p, wz_p, w8_p, fz_p, fw_p, tw_p, ck_p, ob_s, oc_s, if_pos, if_neg, am_upo, up_s, ne_eq, not_true_eq_false, not_false_eq_true, true_or, or_true, true_and, and_true, false_and, and_false, ck_t, reduceIte, Int.tmod_eq_emod_of_nonneg, Int.tdiv_eq_ediv_of_nonneg, R_dividing_eq]
    · simp (disch := omega) only [c_lt_p, c_eq_p, c_ne_p, c_ge_p, c_gt_p, c_le_p, rd_p, wa_p, wz_p, w8_p, fz_p, fw_p, tw_p, ck_p, ob_s, oc_s, if_pos, if_neg, am_upo, up_s, ne_eq, not_true_eq_false, not_false_eq_true, true_or, or_true, true_and, and_true, false_and, and_false, ck_t, reduceIte, Int.tmod_eq_emod_of_nonneg, Int.tdiv_eq_ediv_of_nonneg, R_dividing_eq]
  | k + 1, n + 1, a, b, M, hk, hn, h0, h1, h2, h3, hL, hG, hT => by
    have hl := hw.1
    have h4 := bbS_b g t k
    unfold bbS at h3
    unfold R_safe_39 R_safe_77 sfS
    rw [show (((k + 1 : Nat) : Int)) = (k : Int) + 1 by omega]
    rw [show (k : Int) + 1 + -1 = (k : Int) by omega]
    rcases blS_01 t g ((k : Int) + 1) with q | q
    · rw [q, Int.add_zero] at h3
      obtain ⟨N, e, f⟩ := R_safe_lp hF hg hw hx hB k n a b M (by omega) (by omega) h0 h1 h2 h3 hL hG hT
      refine ⟨N, ?_, f⟩
      simp (disch := omega) only [c_lt_p, c_eq_p, c_ne_p, c_ge_p, c_gt_p, c_le_p, rd_p, wa_p, wz_p, w8_p, fz_p, fw_p, tw_p, ck_p, ob_s, oc_s, if_pos, if_neg, am_upo, up_s, ne_eq, not_true_eq_false, not_false_eq_true, true_or, or_true, true_and, and_true, false_and, and_false, ck_t, reduceIte, Int.tmod_eq_emod_of_nonneg, Int.tdiv_eq_ediv_of_nonneg, R_isBlind_eq hw hg hT hG, q, e]
    · rw [q] at h3
      have h5 := erS_b hF g t ((k : Int) + 1)
      have h6 := sf_ab h0 h1 h5.1 h5.2
      rw [show (bbS g t k + 1).toNat = (bbS g t k).toNat + 1 by omega] at h3
      obtain ⟨N1, e1, f1⟩ := R_straying_eq (p := (k : Int) + 1) hF hL hg hw hG hT (by omega) (by omega)
      obtain ⟨N, e, f⟩ := R_safe_lp hF hg hw hx hB k n (a * (10 - erS F g t ((k : Int) + 1))) (b * 10) N1 (by omega) (by omega) h6.1 h6.2 (by omega) (by rw [show (b * 10).toNat = b.toNat * 10 by omega]; exact sf_in h3) (hL.lg f1) (hG.lg f1) (hT.lg f1)
      refine ⟨N, ?_, f1.tr f⟩
      simp (disch := omega) only [c_lt_p, c_eq_p, c_ne_p, c_ge_p, c_gt_p, c_le_p, rd_p, wa_p, wz_p, w8_p, fz_p, fw_p, tw_p, ck_p, ob_s, oc_s, if_pos, if_neg, am_upo, up_s, ne_eq, not_true_eq_false, not_false_eq_true, true_or, or_true, true_and, and_true, false_and, and_false, ck_t, reduceIte, Int.tmod_eq_emod_of_nonneg, Int.tdiv_eq_ediv_of_nonneg, R_isBlind_eq hw hg hT hG, q, e1, e]
theorem P_safe_ok {n : Nat} {x : Int} (hx : am_R x) : OK6 n (P_safe x) (R_safe x) := by
  refine OK6.rd (fun F g t u hW => ?_)
  have hl := hW.2.1.1
  have hF := hW.2.2.2.2
  have hb := bbS_b g t (t 0 2).toNat
  have h47 : ∀ M, PR F g t u M → M 73 47 = ((t 0 2).toNat : Int) := fun M hR => by rw [hR.2.1.1.2.2.1]; omega
  have h11 : ∀ M, PC F g t u n M → M 26 11 = ((t 0 2).toNat : Int) := fun M hR => by rw [hR.2.1.1.2.2.1]; omega
  by_cases hc : 0 ≤ x ∧ x ≤ 1
  · by_cases h18 : bbS g t (t 0 2).toNat ≤ 18
    · have h3 : (1 : Int).toNat * 10 ^ (bbS g t (t 0 2).toNat).toNat ≤ 1000000000000000000 := by
        have : 10 ^ (bbS g t (t 0 2).toNat).toNat ≤ 10 ^ 18 := Nat.pow_le_pow_right (by decide) (by omega)
        exact Nat.le_trans (by rw [show (1 : Int).toNat = 1 from rfl, Nat.one_mul]; exact this) (by decide)
      refine ⟨sfS F g t x (t 0 2).toNat 1 1, sfS_b hF g t x _ 1 1 (by decide) (by decide) (by decide) h3, fun M hC => ?_, fun M hR => ?_⟩
      · obtain ⟨N, e, f⟩ := P_safe_lp hF hW.1 hW.2.1 hc (Nat.le_refl _) (t 0 2).toNat am_big 1 1 M (by omega) (by show _ < 1000000; omega) (by decide) (by decide) (by decide) h3 hC.2.2.2.1 hC.1 hC.2.1
        refine ⟨N, ?_, f⟩
        have := h11 M hC
        unfold P_safe
        simp (disch := omega) only [c_lt_p, c_eq_p, c_ne_p, c_ge_p, c_gt_p, c_le_p, rd_p, wa_p, wz_p, w8_p, fz_p, fw_p, tw_p, ck_p, ob_s, oc_s, if_pos, if_neg, am_upo, up_s, ne_eq, not_true_eq_false, not_false_eq_true, true_or, or_true, true_and, and_true, false_and, and_false, ck_t, reduceIte, Int.tmod_eq_emod_of_nonneg, Int.tdiv_eq_ediv_of_nonneg, Trip_blindBack_eq hW.1 hW.2.1 hC.1 hC.2.1, this, e]
      · obtain ⟨N1, e1, f1⟩ := R_back_eq (x := 2) hF hW.1 hW.2.1 hR.2.2.2 hR.1 hR.2.1 (by decide)
        have hR1 := hR.lg f1
        obtain ⟨N, e, f⟩ := R_safe_lp hF hW.1 hW.2.1 hc (Nat.le_refl _) (t 0 2).toNat am_big 1 1 N1 (by omega) (by show _ < 1000000; omega) (by decide) (by decide) (by decide) h3 hR1.2.2.2 hR1.1 hR1.2.1
        refine ⟨N, ?_, f1.tr f⟩
        have := h47 N1 hR1
        have h2 : bkS F g t 2 = bbS g t (t 0 2).toNat := rfl
        unfold R_safe
        simp (disch := omega) only [c_lt_p, c_eq_p, c_ne_p, c_ge_p, c_gt_p, c_le_p, rd_p, wa_p, wz_p, w8_p, fz_p, fw_p, tw_p, ck_p, ob_s, oc_s, if_pos, if_neg, am_upo, up_s, ne_eq, not_true_eq_false, not_false_eq_true, true_or, or_true, true_and, and_true, false_and, and_false, ck_t, reduceIte, Int.tmod_eq_emod_of_nonneg, Int.tdiv_eq_ediv_of_nonneg, R_lies_eq, e1, h2, this, e]
    · refine ⟨-3, by decide, fun M hC => ⟨M, ?_, LF.rf⟩, fun M hR => ?_⟩
      · unfold P_safe
        simp (disch := omega) only [c_lt_p, c_eq_p, c_ne_p, c_ge_p, c_gt_p, c_le_p, rd_p, wa_p, wz_p, w8_p, fz_p, fw_p, tw_p, ck_p, ob_s, oc_s, if_pos, if_neg, am_upo, up_s, ne_eq, not_true_eq_false, not_false_eq_true, true_or, or_true, true_and, and_true, false_and, and_false, ck_t, reduceIte, Int.tmod_eq_emod_of_nonneg, Int.tdiv_eq_ediv_of_nonneg, Trip_blindBack_eq hW.1 hW.2.1 hC.1 hC.2.1]
      · obtain ⟨N1, e1, f1⟩ := R_back_eq (x := 2) hF hW.1 hW.2.1 hR.2.2.2 hR.1 hR.2.1 (by decide)
        refine ⟨N1, ?_, f1⟩
        have h2 : bkS F g t 2 = bbS g t (t 0 2).toNat := rfl
        unfold R_safe
        simp (disch := omega) only [c_lt_p, c_eq_p, c_ne_p, c_ge_p, c_gt_p, c_le_p, rd_p, wa_p, wz_p, w8_p, fz_p, fw_p, tw_p, ck_p, ob_s, oc_s, if_pos, if_neg, am_upo, up_s, ne_eq, not_true_eq_false, not_false_eq_true, true_or, or_true, true_and, and_true, false_and, and_false, ck_t, reduceIte, Int.tmod_eq_emod_of_nonneg, Int.tdiv_eq_ediv_of_nonneg, R_lies_eq, e1, h2]
  · refine ⟨-1, by decide, fun M hC => ⟨M, ?_, LF.rf⟩, fun M hR => ⟨M, ?_, LG.rf⟩⟩
    · unfold P_safe P_safe_9
      by_cases h2 : x < 0
      · simp (disch := omega) only [c_lt_p, c_eq_p, c_ne_p, c_ge_p, c_gt_p, c_le_p, rd_p, wa_p, wz_p, w8_p, fz_p, fw_p, tw_p, ck_p, ob_s, oc_s, if_pos, if_neg, am_upo, up_s, ne_eq, not_true_eq_false, not_false_eq_true, true_or, or_true, true_and, and_true, false_and, and_false, ck_t, reduceIte, Int.tmod_eq_emod_of_nonneg, Int.tdiv_eq_ediv_of_nonneg]
      · simp (disch := omega) only [c_lt_p, c_eq_p, c_ne_p, c_ge_p, c_gt_p, c_le_p, rd_p, wa_p, wz_p, w8_p, fz_p, fw_p, tw_p, ck_p, ob_s, oc_s, if_pos, if_neg, am_upo, up_s, ne_eq, not_true_eq_false, not_false_eq_true, true_or, or_true, true_and, and_true, false_and, and_false, ck_t, reduceIte, Int.tmod_eq_emod_of_nonneg, Int.tdiv_eq_ediv_of_nonneg]
    · unfold R_safe
      simp (disch := omega) only [c_lt_p, c_eq_p, c_ne_p, c_ge_p, c_gt_p, c_le_p, rd_p, wa_p, wz_p, w8_p, fz_p, fw_p, tw_p, ck_p, ob_s, oc_s, if_pos, if_neg, am_upo, up_s, ne_eq, not_true_eq_false, not_false_eq_true, true_or, or_true, true_and, and_true, false_and, and_false, ck_t, reduceIte, Int.tmod_eq_emod_of_nonneg, Int.tdiv_eq_ediv_of_nonneg, R_lies_eq]
