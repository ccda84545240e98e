-- the tape taken
def tkS (g : am_M) : am_M := am_up g 0 0 0
def taS (g : am_M) (n p : Int) : Int := if 0 ≤ p ∧ p < n then g 1 p.toNat else -1
theorem taS_b {g : am_M} (hg : WG g) {n : Int} (hn : n ≤ 260) (p : Int) : -1 ≤ taS g n p ∧ taS g n p < 256 := by
  unfold taS
  split
  · have := hg.2.1 p.toNat (by omega)
    omega
  · omega
theorem tkS_W {g : am_M} (h : WG g) : WG (tkS g) := by
  have h1 := h.1
  unfold WG tkS
  simp (disch := omega) only [c_lt_p, c_eq_p, c_ne_p, c_ge_p, c_gt_p, c_le_p, rd_p, wa_p, wz_p, w8_p, fz_p, fw_p, tw_p, ck_p, ob_s, oc_s, if_pos, if_neg, am_upo, up_s, ne_eq, not_true_eq_false, not_false_eq_true, true_or, or_true, true_and, and_true, false_and, and_false, ck_t, reduceIte, Int.tmod_eq_emod_of_nonneg, Int.tdiv_eq_ediv_of_nonneg]
  exact ⟨by omega, h.2⟩
theorem PW.tk {F : FT} {g t u : am_M} (h : PW F g t u) : PW F (tkS g) t u := by
  refine ⟨tkS_W h.1, h.2.1, ?_, ?_, h.2.2.2.2⟩
  · have e : tkS g 3 = g 3 := by unfold tkS; simp (disch := omega) only [c_lt_p, c_eq_p, c_ne_p, c_ge_p, c_gt_p, c_le_p, rd_p, wa_p, wz_p, w8_p, fz_p, fw_p, tw_p, ck_p, ob_s, oc_s, if_pos, if_neg, am_upo, up_s, ne_eq, not_true_eq_false, not_false_eq_true, true_or, or_true, true_and, and_true, false_and, and_false, ck_t, reduceIte, Int.tmod_eq_emod_of_nonneg, Int.tdiv_eq_ediv_of_nonneg]
    rw [e]
    exact h.2.2.1
  · have e : tkS g 3 = g 3 := by unfold tkS; simp (disch := omega) only [c_lt_p, c_eq_p, c_ne_p, c_ge_p, c_gt_p, c_le_p, rd_p, wa_p, wz_p, w8_p, fz_p, fw_p, tw_p, ck_p, ob_s, oc_s, if_pos, if_neg, am_upo, up_s, ne_eq, not_true_eq_false, not_false_eq_true, true_or, or_true, true_and, and_true, false_and, and_false, ck_t, reduceIte, Int.tmod_eq_emod_of_nonneg, Int.tdiv_eq_ediv_of_nonneg]
    have e4 : tkS g 0 4 = g 0 4 := by unfold tkS; simp (disch := omega) only [c_lt_p, c_eq_p, c_ne_p, c_ge_p, c_gt_p, c_le_p, rd_p, wa_p, wz_p, w8_p, fz_p, fw_p, tw_p, ck_p, ob_s, oc_s, if_pos, if_neg, am_upo, up_s, ne_eq, not_true_eq_false, not_false_eq_true, true_or, or_true, true_and, and_true, false_and, and_false, ck_t, reduceIte, Int.tmod_eq_emod_of_nonneg, Int.tdiv_eq_ediv_of_nonneg]
    rw [e, e4]
    exact h.2.2.2.1
theorem GP.tk {g M : am_M} {v : Int} (h : GP g M) : GP (tkS g) (am_up (am_up M 14 2 v) 14 1 0) := by
  unfold GP tkS at *
  simp (disch := omega) only [c_lt_p, c_eq_p, c_ne_p, c_ge_p, c_gt_p, c_le_p, rd_p, wa_p, wz_p, w8_p, fz_p, fw_p, tw_p, ck_p, ob_s, oc_s, if_pos, if_neg, am_upo, up_s, ne_eq, not_true_eq_false, not_false_eq_true, true_or, or_true, true_and, and_true, false_and, and_false, ck_t, reduceIte, Int.tmod_eq_emod_of_nonneg, Int.tdiv_eq_ediv_of_nonneg]
  exact ⟨h.1.2, h.2⟩
theorem PC.tk {F : FT} {g t u M : am_M} {n : Nat} {v : Int} (h : PC F g t u n M) : PC F (tkS g) t u n (am_up (am_up M 14 2 v) 14 1 0) := by
  have e : ∀ k, k ≠ 14 → (am_up (am_up M 14 2 v) 14 1 0) k = M k := fun k hk => by simp (disch := omega) only [c_lt_p, c_eq_p, c_ne_p, c_ge_p, c_gt_p, c_le_p, rd_p, wa_p, wz_p, w8_p, fz_p, fw_p, tw_p, ck_p, ob_s, oc_s, if_pos, if_neg, am_upo, up_s, ne_eq, not_true_eq_false, not_false_eq_true, true_or, or_true, true_and, and_true, false_and, and_false, ck_t, reduceIte, Int.tmod_eq_emod_of_nonneg, Int.tdiv_eq_ediv_of_nonneg]
  have e4 : tkS g 0 4 = g 0 4 := by unfold tkS; simp (disch := omega) only [c_lt_p, c_eq_p, c_ne_p, c_ge_p, c_gt_p, c_le_p, rd_p, wa_p, wz_p, w8_p, fz_p, fw_p, tw_p, ck_p, ob_s, oc_s, if_pos, if_neg, am_upo, up_s, ne_eq, not_true_eq_false, not_false_eq_true, true_or, or_true, true_and, and_true, false_and, and_false, ck_t, reduceIte, Int.tmod_eq_emod_of_nonneg, Int.tdiv_eq_ediv_of_nonneg]
  exact ⟨h.1.tk, h.2.1.cg (fun k a b => e k (by omega)), fun q => (h.2.2.1 (by rw [← e4]; exact q)).cg (fun k a b => e k (by omega)), h.2.2.2.1.cg (fun k a b => e k (by omega)), h.2.2.2.2.cg (fun k a b => e k (by omega)) (Nat.le_refl _)⟩
theorem GR.tk {g M : am_M} (h : GR g M) : GR (tkS g) (am_up M 73 1 0) := by
  unfold GR tkS at *
  simp (disch := omega) only [c_lt_p, c_eq_p, c_ne_p, c_ge_p, c_gt_p, c_le_p, rd_p, wa_p, wz_p, w8_p, fz_p, fw_p, tw_p, ck_p, ob_s, oc_s, if_pos, if_neg, am_upo, up_s, ne_eq, not_true_eq_false, not_false_eq_true, true_or, or_true, true_and, and_true, false_and, and_false, ck_t, reduceIte, Int.tmod_eq_emod_of_nonneg, Int.tdiv_eq_ediv_of_nonneg]
  exact ⟨h.1.2, h.2⟩
theorem PR.tk {F : FT} {g t u M : am_M} (h : PR F g t u M) : PR F (tkS g) t u (am_up M 73 1 0) := by
  have e4 : tkS g 0 4 = g 0 4 := by unfold tkS; simp (disch := omega) only [c_lt_p, c_eq_p, c_ne_p, c_ge_p, c_gt_p, c_le_p, rd_p, wa_p, wz_p, w8_p, fz_p, fw_p, tw_p, ck_p, ob_s, oc_s, if_pos, if_neg, am_upo, up_s, ne_eq, not_true_eq_false, not_false_eq_true, true_or, or_true, true_and, and_true, false_and, and_false, ck_t, reduceIte, Int.tmod_eq_emod_of_nonneg, Int.tdiv_eq_ediv_of_nonneg]
  exact ⟨h.1.tk, h.2.1.o (by decide), fun q => (h.2.2.1 (by rw [← e4]; exact q)).cg (fun k a => upo (by omega)), h.2.2.2.cg (fun k a b => upo (by omega)) (upx (by decide))⟩
theorem GR.o {g M : am_M} {j : Nat} {v : Int} (h : GR g M) (hj : j ≠ 1 ∧ j ≠ 42 ∧ j ≠ 43 ∧ j ≠ 19 ∧ j ≠ 66) : GR g (am_up M 73 j v) := by
  unfold GR at *
  simp (disch := omega) only [c_lt_p, c_eq_p, c_ne_p, c_ge_p, c_gt_p, c_le_p, rd_p, wa_p, wz_p, w8_p, fz_p, fw_p, tw_p, ck_p, ob_s, oc_s, if_pos, if_neg, am_upo, up_s, ne_eq, not_true_eq_false, not_false_eq_true, true_or, or_true, true_and, and_true, false_and, and_false, ck_t, reduceIte, Int.tmod_eq_emod_of_nonneg, Int.tdiv_eq_ediv_of_nonneg]
  exact h
theorem PR.o {F : FT} {g t u M : am_M} {j : Nat} {v : Int} (h : PR F g t u M) (hj : (j ≠ 1 ∧ j ≠ 42 ∧ j ≠ 43 ∧ j ≠ 19 ∧ j ≠ 66) ∧ (j ≠ 41 ∧ j ≠ 46 ∧ j ≠ 47 ∧ j ≠ 44 ∧ j ≠ 45 ∧ j ≠ 2)) : PR F g t u (am_up M 73 j v) := ⟨h.1.o hj.1, h.2.1.o hj.2, fun q => (h.2.2.1 q).cg (fun k a => upo (by omega)), h.2.2.2.cg (fun k a b => upo (by omega)) (upx (by omega))⟩
theorem Tape_take_eq {g M : am_M} (hg : WG g) (hG : GP g M) {n l m : Int} (hn : am_R n) (hl : am_R l) (hm : am_R m) : Tape_take n l m M = if l ≤ n ∧ n ≤ m ∧ n ≤ g 0 0 then some (1, am_up (am_up M 14 2 n) 14 1 0) else some (0, M) := by
  have h1 := hg.1
  have e : M 14 1 = g 0 0 := hG.1.1
  unfold Tape_take Tape_take_18
  by_cases q1 : n < l
  · simp (disch := omega) only [c_lt_p, c_eq_p, c_ne_p, c_ge_p, c_gt_p, c_le_p, rd_p, wa_p, wz_p, w8_p, fz_p, fw_p, tw_p, ck_p, ob_s, oc_s, if_pos, if_neg, am_upo, up_s, ne_eq, not_true_eq_false, not_false_eq_true, true_or, or_true, true_and, and_true, false_and, and_false, ck_t, reduceIte, Int.tmod_eq_emod_of_nonneg, Int.tdiv_eq_ediv_of_nonneg]
  · by_cases q2 : m < n
    · simp (disch := omega) only [c_lt_p, c_eq_p, c_ne_p, c_ge_p, c_gt_p, c_le_p, rd_p, wa_p, wz_p, w8_p, fz_p, fw_p, tw_p, ck_p, ob_s, oc_s, if_pos, if_neg, am_upo, up_s, ne_eq, not_true_eq_false, not_false_eq_true, true_or, or_true, true_and, and_true, false_and, and_false, ck_t, reduceIte, Int.tmod_eq_emod_of_nonneg, Int.tdiv_eq_ediv_of_nonneg]
    · by_cases q3 : n ≤ g 0 0
      · simp (disch := omega) only [c_lt_p, c_eq_p, c_ne_p, c_ge_p, c_gt_p, c_le_p, rd_p, wa_p, wz_p, w8_p, fz_p, fw_p, tw_p, ck_p, ob_s, oc_s, if_pos, if_neg, am_upo, up_s, ne_eq, not_true_eq_false, not_false_eq_true, true_or, or_true, true_and, and_true, false_and, and_false, ck_t, reduceIte, Int.tmod_eq_emod_of_nonneg, Int.tdiv_eq_ediv_of_nonneg, e]
      · simp (disch := omega) only [c_lt_p, c_eq_p, c_ne_p, c_ge_p, c_gt_p, c_le_p, rd_p, wa_p, wz_p, w8_p, fz_p, fw_p, tw_p, ck_p, ob_s, oc_s, if_pos, if_neg, am_upo, up_s, ne_eq, not_true_eq_false, not_false_eq_true, true_or, or_true, true_and, and_true, false_and, and_false, ck_t, reduceIte, Int.tmod_eq_emod_of_nonneg, Int.tdiv_eq_ediv_of_nonneg, e]
theorem Tape_at_eq {g M : am_M} (hG : GP g M) {n p : Int} (e : M 14 2 = n) (hn0 : 0 ≤ n) (hn : n ≤ 260) (hp : am_R p) : Tape_at p M = some (taS g n p) := by
  unfold Tape_at Tape_at_28 Tape_at_29 taS
  by_cases q1 : p < 0
  · simp (disch := omega) only [c_lt_p, c_eq_p, c_ne_p, c_ge_p, c_gt_p, c_le_p, rd_p, wa_p, wz_p, w8_p, fz_p, fw_p, tw_p, ck_p, ob_s, oc_s, if_pos, if_neg, am_upo, up_s, ne_eq, not_true_eq_false, not_false_eq_true, true_or, or_true, true_and, and_true, false_and, and_false, ck_t, reduceIte, Int.tmod_eq_emod_of_nonneg, Int.tdiv_eq_ediv_of_nonneg]
  · by_cases q2 : p < n
    · have e2 := hG.2.1 p.toNat (by omega)
      simp (disch := omega) only [c_lt_p, c_eq_p, c_ne_p, c_ge_p, c_gt_p, c_le_p, rd_p, wa_p, wz_p, w8_p, fz_p, fw_p, tw_p, ck_p, ob_s, oc_s, if_pos, if_neg, am_upo, up_s, ne_eq, not_true_eq_false, not_false_eq_true, true_or, or_true, true_and, and_true, false_and, and_false, ck_t, reduceIte, Int.tmod_eq_emod_of_nonneg, Int.tdiv_eq_ediv_of_nonneg, e, e2]
    · simp (disch := omega) only [c_lt_p, c_eq_p, c_ne_p, c_ge_p, c_gt_p, c_le_p, rd_p, wa_p, wz_p, w8_p, fz_p, fw_p, tw_p, ck_p, ob_s, oc_s, if_pos, if_neg, am_upo, up_s, ne_eq, not_true_eq_false, not_false_eq_true, true_or, or_true, true_and, and_true, false_and, and_false, ck_t, reduceIte, Int.tmod_eq_emod_of_nonneg, Int.tdiv_eq_ediv_of_nonneg, e]
theorem R_byteAt_eq {g M : am_M} (hG : GR g M) {p : Int} (h0 : 0 ≤ p) (h1 : p < 260) : R_byteAt p M = some (g 1 p.toNat) := by
  have e2 := hG.2.1 p.toNat (by omega)
  unfold R_byteAt
  rw [rd_p (by omega), e2]
-- check
def chS (g t : am_M) : Nat → Int → Int
  | 0, _ => -1
  | k + 1, p => if g 1 p.toNat = grS t p then chS g t k (p + 1) else p
theorem chS_b (g t : am_M) : ∀ (k : Nat) (p : Int), 0 ≤ p → -1 ≤ chS g t k p ∧ chS g t k p ≤ p + k
  | 0, p, h => by unfold chS; omega
  | k + 1, p, h => by
    have := chS_b g t k (p + 1) (by omega)
    unfold chS
    split <;> omega
theorem P_check_lp {g t M : am_M} (hg : WG g) (hw : WT t) (hG : GP g M) (hT : TP 26 t M) {x : Int} (hx : 0 ≤ x ∧ x ≤ 100) (e : M 14 2 = x) : ∀ (k n : Nat) (p : Int), p + k = x → 0 ≤ p → k < n → P_check_19 n x p M = some (chS g t k p, M)
  | 0, n + 1, p, h, h0, hn => by
    unfold P_check_19 chS
    simp (disch := omega) only [c_lt_p, c_eq_p, c_ne_p, c_ge_p, c_gt_p, c_le_p, rd_p, wa_p, wz_p, w8_p, fz_p, fw_p, tw_p, ck_p, ob_s, oc_s, if_pos, if_neg, am_upo, up_s, ne_eq, not_true_eq_false, not_false_eq_true, true_or, or_true, true_and, and_true, false_and, and_false, ck_t, reduceIte, Int.tmod_eq_emod_of_nonneg, Int.tdiv_eq_ediv_of_nonneg]
  | k + 1, n + 1, p, h, h0, hn => by
    have ih := P_check_lp hg hw hG hT hx e k n (p + 1) (by omega) (by omega) (by omega)
    have b1 := grS_b hw p
    have b2 := hg.2.1 p.toNat (by omega)
    have e1 : taS g x p = g 1 p.toNat := if_pos ⟨h0, by omega⟩
    unfold P_check_19 chS
    by_cases hc : g 1 p.toNat = grS t p
    · simp (disch := omega) only [c_lt_p, c_eq_p, c_ne_p, c_ge_p, c_gt_p, c_le_p, rd_p, wa_p, wz_p, w8_p, fz_p, fw_p, tw_p, ck_p, ob_s, oc_s, if_pos, if_neg, am_upo, up_s, ne_eq, not_true_eq_false, not_false_eq_true, true_or, or_true, true_and, and_true, false_and, and_false, ck_t, reduceIte, Int.tmod_eq_emod_of_nonneg, Int.tdiv_eq_ediv_of_nonneg, Tape_at_eq hG e, e1, Trip_grownAt_26_eq hw hT, ih]
    · simp (disch := omega) only [c_lt_p, c_eq_p, c_ne_p, c_ge_p, c_gt_p, c_le_p, rd_p, wa_p, wz_p, w8_p, fz_p, fw_p, tw_p, ck_p, ob_s, oc_s, if_pos, if_neg, am_upo, up_s, ne_eq, not_true_eq_false, not_false_eq_true, true_or, or_true, true_and, and_true, false_and, and_false, ck_t, reduceIte, Int.tmod_eq_emod_of_nonneg, Int.tdiv_eq_ediv_of_nonneg, Tape_at_eq hG e, e1, Trip_grownAt_26_eq hw hT]
theorem R_check_lp {g t M : am_M} (hg : WG g) (hw : WT t) (hG : GR g M) (hT : TR t M) {x : Int} (hx : 0 ≤ x ∧ x ≤ 100) : ∀ (k n : Nat) (p : Int), p + k = x → 0 ≤ p → k < n → R_check_30 n x p M = some (chS g t k p, M)
  | 0, n + 1, p, h, h0, hn => by
    unfold R_check_30 chS
    simp (disch := omega) only [c_lt_p, c_eq_p, c_ne_p, c_ge_p, c_gt_p, c_le_p, rd_p, wa_p, wz_p, w8_p, fz_p, fw_p, tw_p, ck_p, ob_s, oc_s, if_pos, if_neg, am_upo, up_s, ne_eq, not_true_eq_false, not_false_eq_true, true_or, or_true, true_and, and_true, false_and, and_false, ck_t, reduceIte, Int.tmod_eq_emod_of_nonneg, Int.tdiv_eq_ediv_of_nonneg]
  | k + 1, n + 1, p, h, h0, hn => by
    have ih := R_check_lp hg hw hG hT hx k n (p + 1) (by omega) (by omega) (by omega)
    have b1 := grS_b hw p
    have b2 := hg.2.1 p.toNat (by omega)
    have hl := hw.1
    have e46 : M 73 46 = t 0 1 := hT.1.2.1
    unfold R_check_30 R_check_58 chS
    by_cases hp : p < t 0 1
    · have e1 : grS t p = t 4 p.toNat := if_pos ⟨h0, hp⟩
      have e2 := (hT.2.1 p.toNat (by omega)).2.2.1
      by_cases hc : g 1 p.toNat = grS t p
      · simp (disch := omega) only [c_lt_p, c_eq_p, c_ne_p, c_ge_p, c_gt_p, c_le_p, rd_p, wa_p, wz_p, w8_p, fz_p, fw_p, tw_p, ck_p, ob_s, oc_s, if_pos, if_neg, am_upo, up_s, ne_eq, not_true_eq_false, not_false_eq_true, true_or, or_true, true_and, and_true, false_and, and_false, ck_t, reduceIte, Int.tmod_eq_emod_of_nonneg, Int.tdiv_eq_ediv_of_nonneg, R_byteAt_eq hG, e46, e2, ih]
      · simp (disch := omega) only [c_lt_p, c_eq_p, c_ne_p, c_ge_p, c_gt_p, c_le_p, rd_p, wa_p, wz_p, w8_p, fz_p, fw_p, tw_p, ck_p, ob_s, oc_s, if_pos, if_neg, am_upo, up_s, ne_eq, not_true_eq_false, not_false_eq_true, true_or, or_true, true_and, and_true, false_and, and_false, ck_t, reduceIte, Int.tmod_eq_emod_of_nonneg, Int.tdiv_eq_ediv_of_nonneg, R_byteAt_eq hG, e46, e2, ih]
    · have e1 : grS t p = 0 := if_neg (by omega)
      by_cases hc : g 1 p.toNat = grS t p
      · simp (disch := omega) only [c_lt_p, c_eq_p, c_ne_p, c_ge_p, c_gt_p, c_le_p, rd_p, wa_p, wz_p, w8_p, fz_p, fw_p, tw_p, ck_p, ob_s, oc_s, if_pos, if_neg, am_upo, up_s, ne_eq, not_true_eq_false, not_false_eq_true, true_or, or_true, true_and, and_true, false_and, and_false, ck_t, reduceIte, Int.tmod_eq_emod_of_nonneg, Int.tdiv_eq_ediv_of_nonneg, R_byteAt_eq hG, e46, ih]
      · simp (disch := omega) only [c_lt_p, c_eq_p, c_ne_p, c_ge_p, c_gt_p, c_le_p, rd_p, wa_p, wz_p, w8_p, fz_p, fw_p, tw_p, ck_p, ob_s, oc_s, if_pos, if_neg, am_upo, up_s, ne_eq, not_true_eq_false, not_false_eq_true, true_or, or_true, true_and, and_true, false_and, and_false, ck_t, reduceIte, Int.tmod_eq_emod_of_nonneg, Int.tdiv_eq_ediv_of_nonneg, R_byteAt_eq hG, e46, ih]
theorem P_check_ok {n : Nat} {x : Int} (hx : am_R x) : OK2 n (P_check x) (R_check x) := by
  refine OK2.of (lp := [14]) (lr := [73]) (by decide) (by decide) (fun M r h => P_check_c x M r h) (fun M r h => R_check_c x M r h) (fun F g t u hW => ?_)
  have h1 := hW.1.1
  by_cases hc : 0 ≤ x ∧ x ≤ 100 ∧ x ≤ g 0 0
  · have hb := chS_b (tkS g) t x.toNat 0 (by omega)
    refine ⟨chS (tkS g) t x.toNat 0, F, tkS g, t, u, by omega, hW.tk, fun M hC => ⟨_, ?_, (hC.tk (v := x)).cg (fun _ _ => rfl) (by omega)⟩, fun M hR => ⟨_, ?_, hR.tk⟩⟩
    · have h2 := hC.tk (v := x)
      unfold P_check
      rw [Tape_take_eq hW.1 hC.1 hx (by decide) (by decide), if_pos hc, oc_s, c_ne_p (by decide) (by decide), if_pos (by decide)]
      exact P_check_lp (tkS_W hW.1) hW.2.1 h2.1 h2.2.1 (by omega) (by simp (disch := omega) only [c_lt_p, c_eq_p, c_ne_p, c_ge_p, c_gt_p, c_le_p, rd_p, wa_p, wz_p, w8_p, fz_p, fw_p, tw_p, ck_p, ob_s, oc_s, if_pos, if_neg, am_upo, up_s, ne_eq, not_true_eq_false, not_false_eq_true, true_or, or_true, true_and, and_true, false_and, and_false, ck_t, reduceIte, Int.tmod_eq_emod_of_nonneg, Int.tdiv_eq_ediv_of_nonneg]) x.toNat am_big 0 (by omega) (by omega) (by show _ < 1000000; omega)
    · have h2 := hR.tk
      have e : M 73 1 = g 0 0 := hR.1.1.1
      unfold R_check
      simp (disch := omega) only [c_lt_p, c_eq_p, c_ne_p, c_ge_p, c_gt_p, c_le_p, rd_p, wa_p, wz_p, w8_p, fz_p, fw_p, tw_p, ck_p, ob_s, oc_s, if_pos, if_neg, am_upo, up_s, ne_eq, not_true_eq_false, not_false_eq_true, true_or, or_true, true_and, and_true, false_and, and_false, ck_t, reduceIte, Int.tmod_eq_emod_of_nonneg, Int.tdiv_eq_ediv_of_nonneg, R_lies_eq, e]
      exact R_check_lp (tkS_W hW.1) hW.2.1 h2.1 h2.2.1 (by omega) x.toNat am_big 0 (by omega) (by omega) (by show _ < 1000000; omega)
  · refine ⟨-2, F, g, t, u, by decide, hW, fun M hC => ⟨M, ?_, hC.cg (fun _ _ => rfl) (by omega)⟩, fun M hR => ⟨M, ?_, hR⟩⟩
    · unfold P_check
      rw [Tape_take_eq hW.1 hC.1 hx (by decide) (by decide), if_neg hc, oc_s, c_ne_p (by decide) (by decide), if_neg (by decide)]
    · have e : M 73 1 = g 0 0 := hR.1.1.1
      unfold R_check R_check_20
      by_cases q : 0 ≤ x ∧ x ≤ 100
      · simp (disch := omega) only [c_lt_p, c_eq_p, c_ne_p, c_ge_p, c_gt_p, c_le_p, rd_p, wa_p, wz_p, w8_p, fz_p, fw_p, tw_p, ck_p, ob_s, oc_s, if_pos, if_neg, am_upo, up_s, ne_eq, not_true_eq_false, not_false_eq_true, true_or, or_true, true_and, and_true, false_and, and_false, ck_t, reduceIte, Int.tmod_eq_emod_of_nonneg, Int.tdiv_eq_ediv_of_nonneg, R_lies_eq, e]
      · simp (disch := omega) only [c_lt_p, c_eq_p, c_ne_p, c_ge_p, c_gt_p, c_le_p, rd_p, wa_p, wz_p, w8_p, fz_p, fw_p, tw_p, ck_p, ob_s, oc_s, if_pos, if_neg, am_upo, up_s, ne_eq, not_true_eq_false, not_false_eq_true, true_or, or_true, true_and, and_true, false_and, and_false, ck_t, reduceIte, Int.tmod_eq_emod_of_nonneg, Int.tdiv_eq_ediv_of_nonneg, R_lies_eq, e]
-- count
def tb1 (g : am_M) (a p : Int) : Int := if 0 < g 3 p.toNat then b_or a (b_shl 1 p) else a
def tbS (g : am_M) : Nat → Int → Int → Int
  | 0, a, _ => a
  | k + 1, a, p => tbS g k (tb1 g a p) (p + 1)
theorem shl1 {p : Int} (h0 : 0 ≤ p) (h1 : p < 6) : b_shl 1 p = ((2 ^ p.toNat : Nat) : Int) := by
  rcases (show p = 0 ∨ p = 1 ∨ p = 2 ∨ p = 3 ∨ p = 4 ∨ p = 5 by omega) with q | q | q | q | q | q <;> subst q <;> decide +kernel
theorem b_or_0 {x : Int} (h0 : 0 ≤ x) (h1 : x < 2147483648) : b_or x 0 = x := by
  have h := b_or_n (a := x.toNat) (b := 0) (by omega) (by decide)
  rw [Nat.or_zero, show (x.toNat : Int) = x by omega] at h
  exact h
theorem tb1_b {g : am_M} {a p : Int} (ha : 0 ≤ a ∧ a < 64) (hp : 0 ≤ p ∧ p < 6) : 0 ≤ tb1 g a p ∧ tb1 g a p < 64 := by
  unfold tb1
  split
  · have h1 : (2 : Nat) ^ p.toNat < 2 ^ 6 := Nat.pow_lt_pow_right (by decide) (by omega)
    have h2 : a.toNat ||| 2 ^ p.toNat < 2 ^ 6 := Nat.or_lt_two_pow (by omega) h1
    rw [shl1 hp.1 hp.2, show a = (a.toNat : Int) by omega, b_or_n (by omega) (by omega)]
    omega
  · exact ha
theorem tbS_b (g : am_M) : ∀ (k : Nat) (a p : Int), 0 ≤ a ∧ a < 64 → 0 ≤ p → p + k = 6 → 0 ≤ tbS g k a p ∧ tbS g k a p < 64
  | 0, a, p, ha, h0, h1 => ha
  | k + 1, a, p, ha, h0, h1 => tbS_b g k _ _ (tb1_b ha ⟨h0, by omega⟩) (by omega) (by omega)
theorem toldBits_lp {g M : am_M} (hg : WG g) (hG : GP g M) : ∀ (k n : Nat) (a p : Int), 0 ≤ a ∧ a < 64 → 0 ≤ p → p + k = 6 → k < n → Country_toldBits_1_4 n a p M = some (tbS g k a p)
  | 0, n + 1, a, p, ha, h0, h1, hn => by
    unfold Country_toldBits_1_4 tbS
    simp (disch := omega) only [c_lt_p, c_eq_p, c_ne_p, c_ge_p, c_gt_p, c_le_p, rd_p, wa_p, wz_p, w8_p, fz_p, fw_p, tw_p, ck_p, ob_s, oc_s, if_pos, if_neg, am_upo, up_s, ne_eq, not_true_eq_false, not_false_eq_true, true_or, or_true, true_and, and_true, false_and, and_false, ck_t, reduceIte, Int.tmod_eq_emod_of_nonneg, Int.tdiv_eq_ediv_of_nonneg]
  | k + 1, n + 1, a, p, ha, h0, h1, hn => by
    have ih := toldBits_lp hg hG k n (tb1 g a p) (p + 1) (tb1_b ha ⟨h0, by omega⟩) (by omega) (by omega) (by omega)
    have e := hG.2.2.2 p.toNat (by omega)
    have hb := hg.2.2.2 p.toNat (by omega)
    unfold Country_toldBits_1_4 Country_toldBits_1_25 tbS
    unfold tb1 at ih ⊢
    by_cases hc : 0 < g 3 p.toNat
    · rw [if_pos hc] at ih ⊢
      rw [c_ge_p (by omega) (by omega), if_neg (by omega), rd_p (by omega), e, c_le_p (by omega) (by omega), if_neg (by omega)]
      exact ih
    · rw [if_neg hc] at ih ⊢
      rw [c_ge_p (by omega) (by omega), if_neg (by omega), rd_p (by omega), e, c_le_p (by omega) (by omega), if_pos (by omega)]
      exact ih
theorem toldPeople_lp {g M : am_M} (hg : WG g) (hG : GR g M) : ∀ (k n : Nat) (a p : Int), 0 ≤ a ∧ a < 64 → 0 ≤ p → p + k = 6 → k < n → R_toldPeople_4 n a p M = some (tbS g k a p)
  | 0, n + 1, a, p, ha, h0, h1, hn => by
    unfold R_toldPeople_4 tbS
    simp (disch := omega) only [c_lt_p, c_eq_p, c_ne_p, c_ge_p, c_gt_p, c_le_p, rd_p, wa_p, wz_p, w8_p, fz_p, fw_p, tw_p, ck_p, ob_s, oc_s, if_pos, if_neg, am_upo, up_s, ne_eq, not_true_eq_false, not_false_eq_true, true_or, or_true, true_and, and_true, false_and, and_false, ck_t, reduceIte, Int.tmod_eq_emod_of_nonneg, Int.tdiv_eq_ediv_of_nonneg]
  | k + 1, n + 1, a, p, ha, h0, h1, hn => by
    have ih := toldPeople_lp hg hG k n (tb1 g a p) (p + 1) (tb1_b ha ⟨h0, by omega⟩) (by omega) (by omega) (by omega)
    have e := (hG.2.2.2 p.toNat (by omega)).2
    have hb := hg.2.2.2 p.toNat (by omega)
    unfold R_toldPeople_4 R_toldPeople_27 tbS
    unfold tb1 at ih ⊢
    by_cases hc : 0 < g 3 p.toNat
    · rw [if_pos hc] at ih e ⊢
      rw [c_ge_p (by omega) (by omega), if_neg (by omega), rd_p (by omega), e, c_eq_p (by omega) (by omega), if_neg (by omega)]
      exact ih
    · rw [if_neg hc] at ih e ⊢
      rw [c_ge_p (by omega) (by omega), if_neg (by omega), rd_p (by omega), e, c_eq_p (by omega) (by omega), if_pos (by omega), b_or_0 (by omega) (by omega)]
      exact ih
theorem toldBits_eq {g M : am_M} (hg : WG g) (hG : GP g M) : Country_toldBits_1 M = some (tbS g 6 0 0) := toldBits_lp hg hG 6 am_big 0 0 (by omega) (by omega) (by omega) (by decide)
theorem toldPeople_eq {g M : am_M} (hg : WG g) (hG : GR g M) : R_toldPeople M = some (tbS g 6 0 0) := toldPeople_lp hg hG 6 am_big 0 0 (by omega) (by omega) (by omega) (by decide)
theorem nm_100 {x : Int} (hx : am_R x) : am_nm (x - 100) = if -2147483548 ≤ x then x - 100 else x - 100 + 4294967296 := by
  unfold am_nm
  rw [Int32.toInt_ofInt, Int32.size, Int.bmod_def]
  repeat' split
  all_goals omega
def coS (g t : am_M) (x : Int) : Int := if x = 0 then t 0 4 else if x = 1 then t 0 3 else if x = 2 then t 0 1 else if x = 3 then t 0 2 else if x = 4 then tbS g 6 0 0 else if x = 5 then (if t 0 0 = -1 then -2 else t 0 0) else if x = 6 then g 0 3 else if x = 7 then g 0 0 else if x = 8 then t 0 5 else if x = 9 then g 0 1 else if x = 10 then g 0 2 else if 100 ≤ x ∧ x < 244 then g 2 (x - 100).toNat else -1
theorem coS_b {g t : am_M} (hg : WG g) (hw : WT t) (x : Int) : am_R (coS g t x) := by
  have h1 := hg.1
  have h2 := hw.1
  have h3 := tbS_b g 6 0 0 (by omega) (by omega) (by omega)
  by_cases q : 100 ≤ x ∧ x < 244
  · have h4 := hg.2.2.1 (x - 100).toNat (by omega)
    unfold coS
    rw [if_pos q]
    repeat' split
    all_goals omega
  · unfold coS
    rw [if_neg q]
    repeat' split
    all_goals first
      | decide
      | omega
theorem P_count_ok {n : Nat} {x : Int} (hx : am_R x) : OK1 n (P_count x) (R_count x) := by
  refine OK1.of (fun F g t u hW => ⟨coS g t x, coS_b hW.1 hW.2.1 x, fun M hC => ?_, fun M hR => ?_⟩)
  · obtain ⟨e9, e10, e11, e12, e13, e14⟩ := hC.2.1.1
    obtain ⟨g1, g2, g3, g4, g5⟩ := hC.1.1
    have hl := hW.2.1.1
    have hb := tbS_b g 6 0 0 (by omega) (by omega) (by omega)
    have hA := told_ld hW hC.1 hC.2.1
    unfold P_count P_count_129 P_count_197 P_count_198 Tape_size
    rw [ck_p hx]
    by_cases q0 : x = 0
    · subst q0; simp only [coS, e13, reduceIte]
    by_cases q1 : x = 1
    · subst q1; simp [coS, e12]
    by_cases q2 : x = 2
    · subst q2; simp [coS, e10]
    by_cases q3 : x = 3
    · subst q3; simp [coS, e11]
    by_cases q4 : x = 4
    · subst q4; simp [coS, toldBits_eq hW.1 hC.1, ob_s]
    by_cases q5 : x = 5
    · subst q5
      simp [coS, ob_s, hA]
      by_cases qa : t 0 0 = -1
      · simp (disch := omega) only [c_lt_p, c_eq_p, c_ne_p, c_ge_p, c_gt_p, c_le_p, rd_p, wa_p, wz_p, w8_p, fz_p, fw_p, tw_p, ck_p, ob_s, oc_s, if_pos, if_neg, am_upo, up_s, ne_eq, not_true_eq_false, not_false_eq_true, true_or, or_true, true_and, and_true, false_and, and_false, ck_t, reduceIte, Int.tmod_eq_emod_of_nonneg, Int.tdiv_eq_ediv_of_nonneg]
      · rw [if_neg qa] at e9 ⊢
        simp (disch := omega) only [c_lt_p, c_eq_p, c_ne_p, c_ge_p, c_gt_p, c_le_p, rd_p, wa_p, wz_p, w8_p, fz_p, fw_p, tw_p, ck_p, ob_s, oc_s, if_pos, if_neg, am_upo, up_s, ne_eq, not_true_eq_false, not_false_eq_true, true_or, or_true, true_and, and_true, false_and, and_false, ck_t, reduceIte, Int.tmod_eq_emod_of_nonneg, Int.tdiv_eq_ediv_of_nonneg, e9]
    by_cases q6 : x = 6
    · subst q6; simp [coS, g4]
    by_cases q7 : x = 7
    · subst q7; simp [coS, g1, ob_s]
    by_cases q8 : x = 8
    · subst q8; simp [coS, e14]
    by_cases q9 : x = 9
    · subst q9; simp [coS, g2]
    by_cases q10 : x = 10
    · subst q10; simp [coS, g3]
    unfold coS
    rw [if_neg q0, if_neg q1, if_neg q2, if_neg q3, if_neg q4, if_neg q5, if_neg q6, if_neg q7, if_neg q8, if_neg q9, if_neg q10, if_neg q0, if_neg q1, if_neg q2, if_neg q3, if_neg q4, if_neg q5, if_neg q6, if_neg q7, if_neg q8, if_neg q9, if_neg q10]
    by_cases q11 : x < 100
    · simp (disch := omega) only [c_lt_p, c_eq_p, c_ne_p, c_ge_p, c_gt_p, c_le_p, rd_p, wa_p, wz_p, w8_p, fz_p, fw_p, tw_p, ck_p, ob_s, oc_s, if_pos, if_neg, am_upo, up_s, ne_eq, not_true_eq_false, not_false_eq_true, true_or, or_true, true_and, and_true, false_and, and_false, ck_t, reduceIte, Int.tmod_eq_emod_of_nonneg, Int.tdiv_eq_ediv_of_nonneg]
    · by_cases q12 : x < 244
      · have e := hC.1.2.2.1 (x - 100).toNat (by omega)
        simp (disch := omega) only [c_lt_p, c_eq_p, c_ne_p, c_ge_p, c_gt_p, c_le_p, rd_p, wa_p, wz_p, w8_p, fz_p, fw_p, tw_p, ck_p, ob_s, oc_s, if_pos, if_neg, am_upo, up_s, ne_eq, not_true_eq_false, not_false_eq_true, true_or, or_true, true_and, and_true, false_and, and_false, ck_t, reduceIte, Int.tmod_eq_emod_of_nonneg, Int.tdiv_eq_ediv_of_nonneg, Country_kindAt_eq, e]
      · simp (disch := omega) only [c_lt_p, c_eq_p, c_ne_p, c_ge_p, c_gt_p, c_le_p, rd_p, wa_p, wz_p, w8_p, fz_p, fw_p, tw_p, ck_p, ob_s, oc_s, if_pos, if_neg, am_upo, up_s, ne_eq, not_true_eq_false, not_false_eq_true, true_or, or_true, true_and, and_true, false_and, and_false, ck_t, reduceIte, Int.tmod_eq_emod_of_nonneg, Int.tdiv_eq_ediv_of_nonneg]
  · obtain ⟨e9, e10, e11, e12, e13, e14⟩ := hR.2.1.1
    obtain ⟨g1, g2, g3, g4, g5⟩ := hR.1.1
    have hl := hW.2.1.1
    have hnm := nm_100 hx
    unfold R_count R_count_122
    by_cases q11 : 100 ≤ x ∧ x < 244
    · have e := hR.1.2.2.1 (x - 100).toNat (by omega)
      rw [if_pos (by omega)] at hnm
      unfold coS
      rw [hnm]
      simp (disch := omega) only [c_lt_p, c_eq_p, c_ne_p, c_ge_p, c_gt_p, c_le_p, rd_p, wa_p, wz_p, w8_p, fz_p, fw_p, tw_p, ck_p, ob_s, oc_s, if_pos, if_neg, am_upo, up_s, ne_eq, not_true_eq_false, not_false_eq_true, true_or, or_true, true_and, and_true, false_and, and_false, ck_t, reduceIte, Int.tmod_eq_emod_of_nonneg, Int.tdiv_eq_ediv_of_nonneg, R_isCell_eq, e]
    · have hcell : R_isCell (am_nm (x - 100)) M = some 0 := by
        rw [hnm]
        split
        · rw [R_isCell_eq (by omega), if_neg (by omega)]
        · rw [R_isCell_eq (by omega), if_neg (by omega)]
      rw [hcell, ob_s, c_eq_p (by decide) (by decide), if_pos rfl, ck_p hx]
      by_cases q0 : x = 0
      · subst q0; simp only [coS, e13, reduceIte]
      by_cases q1 : x = 1
      · subst q1; simp [coS, e12]
      by_cases q2 : x = 2
      · subst q2; simp [coS, e10]
      by_cases q3 : x = 3
      · subst q3; simp [coS, e11]
      by_cases q4 : x = 4
      · subst q4; simp [coS, toldPeople_eq hW.1 hR.1, ob_s]
      by_cases q5 : x = 5
      · subst q5
        simp [coS]
        by_cases qa : t 0 0 = -1
        · simp (disch := omega) only [c_lt_p, c_eq_p, c_ne_p, c_ge_p, c_gt_p, c_le_p, rd_p, wa_p, wz_p, w8_p, fz_p, fw_p, tw_p, ck_p, ob_s, oc_s, if_pos, if_neg, am_upo, up_s, ne_eq, not_true_eq_false, not_false_eq_true, true_or, or_true, true_and, and_true, false_and, and_false, ck_t, reduceIte, Int.tmod_eq_emod_of_nonneg, Int.tdiv_eq_ediv_of_nonneg, e9]
        · simp (disch := omega) only [c_lt_p, c_eq_p, c_ne_p, c_ge_p, c_gt_p, c_le_p, rd_p, wa_p, wz_p, w8_p, fz_p, fw_p, tw_p, ck_p, ob_s, oc_s, if_pos, if_neg, am_upo, up_s, ne_eq, not_true_eq_false, not_false_eq_true, true_or, or_true, true_and, and_true, false_and, and_false, ck_t, reduceIte, Int.tmod_eq_emod_of_nonneg, Int.tdiv_eq_ediv_of_nonneg, e9]
      by_cases q6 : x = 6
      · subst q6; simp [coS, g4]
      by_cases q7 : x = 7
      · subst q7; simp [coS, g1]
      by_cases q8 : x = 8
      · subst q8; simp [coS, e14]
      by_cases q9 : x = 9
      · subst q9; simp [coS, g2]
      by_cases q10 : x = 10
      · subst q10; simp [coS, g3]
      unfold coS
      rw [if_neg q0, if_neg q1, if_neg q2, if_neg q3, if_neg q4, if_neg q5, if_neg q6, if_neg q7, if_neg q8, if_neg q9, if_neg q10, if_neg q0, if_neg q1, if_neg q2, if_neg q3, if_neg q4, if_neg q5, if_neg q6, if_neg q7, if_neg q8, if_neg q9, if_neg q10, if_neg q11]
