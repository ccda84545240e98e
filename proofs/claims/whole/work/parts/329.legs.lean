-- legs
abbrev lgK (k : Nat) (r f a b : Int) : Prop := (-99 * (9 - (k : Int)) ≤ r ∧ r ≤ 99 * (9 - (k : Int))) ∧ (-99 * (9 - (k : Int)) ≤ f ∧ f ≤ 99 * (9 - (k : Int))) ∧ (0 ≤ a ∧ a ≤ 99 * (9 - (k : Int))) ∧ (0 ≤ b ∧ b ≤ 99 * (9 - (k : Int)))
theorem legs_150 {g M : am_M} {n o y : Int} {k m : Nat} {p v : Int} (ho : 1 ≤ o ∧ o ≤ 99) (hn : 1 ≤ n ∧ n ≤ 40) (hg : WG g) (hG : GP g M) (hk : k < 9) (hv : 0 ≤ v ∧ v ≤ 99) (hp : 0 ≤ p ∧ p ≤ 100) (e14 : M 14 2 = n)
    (hb : lgK (k + 1) (M 72 0) (M 72 1) (M 72 2) (M 72 3))
    (ih : ∀ M', Ch [72] M M' → lgK k (M' 72 0) (M' 72 1) (M' 72 2) (M' 72 3) → ∃ w N, Legs_readLegs_72_25 m o (p + 1) (9 - (k : Int)) M' = some (w, N) ∧ Ch [72] M' N ∧ (-5000 ≤ w ∧ w ≤ 0) ∧ (if w < 0 then w else teS y (N 72 0) (N 72 1) (N 72 2) (N 72 3)) = lgS g n o y k (p + 1) (M' 72 0) (M' 72 1) (M' 72 2) (M' 72 3)) :
    ∃ w N, Legs_readLegs_72_150 (Legs_readLegs_72_25 m) o p (8 - (k : Int)) (taS g n p) v (v / o) M = some (w, N) ∧ Ch [72] M N ∧ (-5000 ≤ w ∧ w ≤ 0) ∧ (if w < 0 then w else teS y (N 72 0) (N 72 1) (N 72 2) (N 72 3)) = if taS g n p = 108 then lgS g n o y k (p + 1) (M 72 0 - v) (M 72 1) (M 72 2 + v / o) (M 72 3) else if taS g n p = 114 then lgS g n o y k (p + 1) (M 72 0 + v) (M 72 1) (M 72 2 + v / o) (M 72 3) else if taS g n p = 102 then lgS g n o y k (p + 1) (M 72 0) (M 72 1 + v) (M 72 2) (M 72 3 + v / o) else if taS g n p = 98 then lgS g n o y k (p + 1) (M 72 0) (M 72 1 - v) (M 72 2) (M 72 3 + v / o) else -1000 - p := by
  have hq := dv_b hv.1 ho.1
  have ht := taS_b hg (n := n) (by omega) p
  have c0 : ∀ {a b x z}, Ch [72] M (am_up (am_up M 72 a x) 72 b z) := fun {a b x z} => (Ch.rf.up (by decide) rfl).up (by decide) rfl
  by_cases q1 : taS g n p = 108
  · obtain ⟨w, N, e1, e2, e3, e4⟩ := ih (am_up (am_up M 72 0 (M 72 0 + -v)) 72 2 (M 72 2 + v / o)) c0 (by simp (disch := omega) only [c_lt_p, c_eq_p, c_ne_p, c_ge_p, c_gt_p, c_le_p, rd_p, wa_p, wz_p, w8_p, fz_p, fw_p, tw_p, ck_p, ob_s, oc_s, if_pos, if_neg, am_upo, up_s, ne_eq, not_true_eq_false, not_false_eq_true, true_or, or_true, true_and, and_true, false_and, and_false, ck_t, reduceIte, Int.tmod_eq_emod_of_nonneg, Int.tdiv_eq_ediv_of_nonneg]; omega)
    refine ⟨w, N, ?_, c0.tr e2 (fun _ h => h), e3, ?_⟩
    · unfold Legs_readLegs_72_150 Legs_addLeg_72 Legs_addLeg_72_61
      simp (disch := omega) only [c_lt_p, c_eq_p, c_ne_p, c_ge_p, c_gt_p, c_le_p, rd_p, wa_p, wz_p, w8_p, fz_p, fw_p, tw_p, ck_p, ob_s, oc_s, if_pos, if_neg, am_upo, up_s, ne_eq, not_true_eq_false, not_false_eq_true, true_or, or_true, true_and, and_true, false_and, and_false, ck_t, reduceIte, Int.tmod_eq_emod_of_nonneg, Int.tdiv_eq_ediv_of_nonneg, q1]
      rw [show 8 - (k : Int) + 1 = 9 - (k : Int) by omega]
      exact e1
    · rw [e4, if_pos q1]
      simp (disch := omega) only [c_lt_p, c_eq_p, c_ne_p, c_ge_p, c_gt_p, c_le_p, rd_p, wa_p, wz_p, w8_p, fz_p, fw_p, tw_p, ck_p, ob_s, oc_s, if_pos, if_neg, am_upo, up_s, ne_eq, not_true_eq_false, not_false_eq_true, true_or, or_true, true_and, and_true, false_and, and_false, ck_t, reduceIte, Int.tmod_eq_emod_of_nonneg, Int.tdiv_eq_ediv_of_nonneg]
      rfl
  · by_cases q2 : taS g n p = 114
    · obtain ⟨w, N, e1, e2, e3, e4⟩ := ih (am_up (am_up M 72 0 (M 72 0 + v)) 72 2 (M 72 2 + v / o)) c0 (by simp (disch := omega) only [c_lt_p, c_eq_p, c_ne_p, c_ge_p, c_gt_p, c_le_p, rd_p, wa_p, wz_p, w8_p, fz_p, fw_p, tw_p, ck_p, ob_s, oc_s, if_pos, if_neg, am_upo, up_s, ne_eq, not_true_eq_false, not_false_eq_true, true_or, or_true, true_and, and_true, false_and, and_false, ck_t, reduceIte, Int.tmod_eq_emod_of_nonneg, Int.tdiv_eq_ediv_of_nonneg]; omega)
      refine ⟨w, N, ?_, c0.tr e2 (fun _ h => h), e3, ?_⟩
      · unfold Legs_readLegs_72_150 Legs_addLeg_72 Legs_addLeg_72_61
        simp (disch := omega) only [c_lt_p, c_eq_p, c_ne_p, c_ge_p, c_gt_p, c_le_p, rd_p, wa_p, wz_p, w8_p, fz_p, fw_p, tw_p, ck_p, ob_s, oc_s, if_pos, if_neg, am_upo, up_s, ne_eq, not_true_eq_false, not_false_eq_true, true_or, or_true, true_and, and_true, false_and, and_false, ck_t, reduceIte, Int.tmod_eq_emod_of_nonneg, Int.tdiv_eq_ediv_of_nonneg, q2]
        rw [show 8 - (k : Int) + 1 = 9 - (k : Int) by omega]
        exact e1
      · rw [e4, if_neg q1, if_pos q2]
        simp (disch := omega) only [c_lt_p, c_eq_p, c_ne_p, c_ge_p, c_gt_p, c_le_p, rd_p, wa_p, wz_p, w8_p, fz_p, fw_p, tw_p, ck_p, ob_s, oc_s, if_pos, if_neg, am_upo, up_s, ne_eq, not_true_eq_false, not_false_eq_true, true_or, or_true, true_and, and_true, false_and, and_false, ck_t, reduceIte, Int.tmod_eq_emod_of_nonneg, Int.tdiv_eq_ediv_of_nonneg]
    · by_cases q3 : taS g n p = 102
      · obtain ⟨w, N, e1, e2, e3, e4⟩ := ih (am_up (am_up M 72 1 (M 72 1 + v)) 72 3 (M 72 3 + v / o)) c0 (by simp (disch := omega) only [c_lt_p, c_eq_p, c_ne_p, c_ge_p, c_gt_p, c_le_p, rd_p, wa_p, wz_p, w8_p, fz_p, fw_p, tw_p, ck_p, ob_s, oc_s, if_pos, if_neg, am_upo, up_s, ne_eq, not_true_eq_false, not_false_eq_true, true_or, or_true, true_and, and_true, false_and, and_false, ck_t, reduceIte, Int.tmod_eq_emod_of_nonneg, Int.tdiv_eq_ediv_of_nonneg]; omega)
        refine ⟨w, N, ?_, c0.tr e2 (fun _ h => h), e3, ?_⟩
        · unfold Legs_readLegs_72_150 Legs_addLeg_72 Legs_addLeg_72_94
          simp (disch := omega) only [c_lt_p, c_eq_p, c_ne_p, c_ge_p, c_gt_p, c_le_p, rd_p, wa_p, wz_p, w8_p, fz_p, fw_p, tw_p, ck_p, ob_s, oc_s, if_pos, if_neg, am_upo, up_s, ne_eq, not_true_eq_false, not_false_eq_true, true_or, or_true, true_and, and_true, false_and, and_false, ck_t, reduceIte, Int.tmod_eq_emod_of_nonneg, Int.tdiv_eq_ediv_of_nonneg, q3]
          rw [show 8 - (k : Int) + 1 = 9 - (k : Int) by omega]
          exact e1
        · rw [e4, if_neg q1, if_neg q2, if_pos q3]
          simp (disch := omega) only [c_lt_p, c_eq_p, c_ne_p, c_ge_p, c_gt_p, c_le_p, rd_p, wa_p, wz_p, w8_p, fz_p, fw_p, tw_p, ck_p, ob_s, oc_s, if_pos, if_neg, am_upo, up_s, ne_eq, not_true_eq_false, not_false_eq_true, true_or, or_true, true_and, and_true, false_and, and_false, ck_t, reduceIte, Int.tmod_eq_emod_of_nonneg, Int.tdiv_eq_ediv_of_nonneg]
      · by_cases q4 : taS g n p = 98
        · obtain ⟨w, N, e1, e2, e3, e4⟩ := ih (am_up (am_up M 72 1 (M 72 1 + -v)) 72 3 (M 72 3 + v / o)) c0 (by simp (disch := omega) only [c_lt_p, c_eq_p, c_ne_p, c_ge_p, c_gt_p, c_le_p, rd_p, wa_p, wz_p, w8_p, fz_p, fw_p, tw_p, ck_p, ob_s, oc_s, if_pos, if_neg, am_upo, up_s, ne_eq, not_true_eq_false, not_false_eq_true, true_or, or_true, true_and, and_true, false_and, and_false, ck_t, reduceIte, Int.tmod_eq_emod_of_nonneg, Int.tdiv_eq_ediv_of_nonneg]; omega)
          refine ⟨w, N, ?_, c0.tr e2 (fun _ h => h), e3, ?_⟩
          · unfold Legs_readLegs_72_150 Legs_addLeg_72 Legs_addLeg_72_94
            simp (disch := omega) only [c_lt_p, c_eq_p, c_ne_p, c_ge_p, c_gt_p, c_le_p, rd_p, wa_p, wz_p, w8_p, fz_p, fw_p, tw_p, ck_p, ob_s, oc_s, if_pos, if_neg, am_upo, up_s, ne_eq, not_true_eq_false, not_false_eq_true, true_or, or_true, true_and, and_true, false_and, and_false, ck_t, reduceIte, Int.tmod_eq_emod_of_nonneg, Int.tdiv_eq_ediv_of_nonneg, q4]
            rw [show 8 - (k : Int) + 1 = 9 - (k : Int) by omega]
            exact e1
          · rw [e4, if_neg q1, if_neg q2, if_neg q3, if_pos q4]
            simp (disch := omega) only [c_lt_p, c_eq_p, c_ne_p, c_ge_p, c_gt_p, c_le_p, rd_p, wa_p, wz_p, w8_p, fz_p, fw_p, tw_p, ck_p, ob_s, oc_s, if_pos, if_neg, am_upo, up_s, ne_eq, not_true_eq_false, not_false_eq_true, true_or, or_true, true_and, and_true, false_and, and_false, ck_t, reduceIte, Int.tmod_eq_emod_of_nonneg, Int.tdiv_eq_ediv_of_nonneg]
            rfl
        · refine ⟨-1000 - p, M, ?_, Ch.rf, by omega, ?_⟩
          · unfold Legs_readLegs_72_150 Legs_addLeg_72 P_faultAt
            simp (disch := omega) only [c_lt_p, c_eq_p, c_ne_p, c_ge_p, c_gt_p, c_le_p, rd_p, wa_p, wz_p, w8_p, fz_p, fw_p, tw_p, ck_p, ob_s, oc_s, if_pos, if_neg, am_upo, up_s, ne_eq, not_true_eq_false, not_false_eq_true, true_or, or_true, true_and, and_true, false_and, and_false, ck_t, reduceIte, Int.tmod_eq_emod_of_nonneg, Int.tdiv_eq_ediv_of_nonneg]
            rfl
          · rw [if_neg q1, if_neg q2, if_neg q3, if_neg q4, if_pos (by omega)]
theorem readLegs_lp {g : am_M} {n o y : Int} (ho : 1 ≤ o ∧ o ≤ 99) (hn : 1 ≤ n ∧ n ≤ 40) (hg : WG g) : ∀ (k m : Nat) (p : Int) (M : am_M), k ≤ 9 → k < m → GP g M → M 14 2 = n → 0 ≤ p → p ≤ 3 * (9 - k) → lgK k (M 72 0) (M 72 1) (M 72 2) (M 72 3) → ∃ w N, Legs_readLegs_72_25 m o p (9 - (k : Int)) M = some (w, N) ∧ Ch [72] M N ∧ (-5000 ≤ w ∧ w ≤ 0) ∧ (if w < 0 then w else teS y (N 72 0) (N 72 1) (N 72 2) (N 72 3)) = lgS g n o y k p (M 72 0) (M 72 1) (M 72 2) (M 72 3)
  | 0, m + 1, p, M, hk, hm, hG, e, hp, hp2, hb => by
    refine ⟨0, M, ?_, Ch.rf, by omega, ?_⟩
    · unfold Legs_readLegs_72_25 Legs_readLegs_72_171
      simp (disch := omega) only [c_lt_p, c_eq_p, c_ne_p, c_ge_p, c_gt_p, c_le_p, rd_p, wa_p, wz_p, w8_p, fz_p, fw_p, tw_p, ck_p, ob_s, oc_s, if_pos, if_neg, am_upo, up_s, ne_eq, not_true_eq_false, not_false_eq_true, true_or, or_true, true_and, and_true, false_and, and_false, ck_t, reduceIte, Int.tmod_eq_emod_of_nonneg, Int.tdiv_eq_ediv_of_nonneg]
    · unfold lgS
      rw [if_neg (by decide)]
  | k + 1, m + 1, p, M, hk, hm, hG, e, hp, hp2, hb => by
    have ht := taS_b hg (n := n) (by omega) p
    have ht1 := taS_b hg (n := n) (by omega) (p + 1)
    have ta0 := Tape_at_eq hG (p := p) e (by omega) (by omega) (by omega)
    have ta1 := Tape_at_eq hG (p := p + 1) e (by omega) (by omega) (by omega)
    have el : (9 - ((k + 1 : Nat) : Int)) = 8 - (k : Int) := by omega
    rw [el]
    by_cases q1 : taS g n p = -1
    · refine ⟨0, M, ?_, Ch.rf, by omega, ?_⟩
      · unfold Legs_readLegs_72_25 Legs_readLegs_72_171
        simp (disch := omega) only [c_lt_p, c_eq_p, c_ne_p, c_ge_p, c_gt_p, c_le_p, rd_p, wa_p, wz_p, w8_p, fz_p, fw_p, tw_p, ck_p, ob_s, oc_s, if_pos, if_neg, am_upo, up_s, ne_eq, not_true_eq_false, not_false_eq_true, true_or, or_true, true_and, and_true, false_and, and_false, ck_t, reduceIte, Int.tmod_eq_emod_of_nonneg, Int.tdiv_eq_ediv_of_nonneg, ta0]
      · unfold lgS
        rw [if_neg (by decide), if_pos q1]
    by_cases q2 : dgB g n p
    · by_cases q3 : k = 0
      · refine ⟨-4000 - p, M, ?_, Ch.rf, by omega, ?_⟩
        · unfold Legs_readLegs_72_25 P_faultAt
          simp (disch := omega) only [c_lt_p, c_eq_p, c_ne_p, c_ge_p, c_gt_p, c_le_p, rd_p, wa_p, wz_p, w8_p, fz_p, fw_p, tw_p, ck_p, ob_s, oc_s, if_pos, if_neg, am_upo, up_s, ne_eq, not_true_eq_false, not_false_eq_true, true_or, or_true, true_and, and_true, false_and, and_false, ck_t, reduceIte, Int.tmod_eq_emod_of_nonneg, Int.tdiv_eq_ediv_of_nonneg, ta0, P_isDigit_eq]
          rfl
        · unfold lgS
          rw [if_pos (by omega), if_neg q1, if_neg (fun h => h q2), if_pos q3]
      · have hv := nvS_b q2
        have hnp := npS_b g n p
        have ta2 := Tape_at_eq hG (p := npS g n p) e (by omega) (by omega) (by omega)
        have st : Legs_readLegs_72_25 (m + 1) o p (8 - (k : Int)) M = Legs_readLegs_72_117 (Legs_readLegs_72_25 m) o (npS g n p) (8 - (k : Int)) p (nvS g n p) M := by
          rw [Legs_readLegs_72_25]
          unfold nvS npS
          by_cases q4 : dgB g n (p + 1)
          · rw [if_pos q4, if_pos q4]
            simp (disch := omega) only [c_lt_p, c_eq_p, c_ne_p, c_ge_p, c_gt_p, c_le_p, rd_p, wa_p, wz_p, w8_p, fz_p, fw_p, tw_p, ck_p, ob_s, oc_s, if_pos, if_neg, am_upo, up_s, ne_eq, not_true_eq_false, not_false_eq_true, true_or, or_true, true_and, and_true, false_and, and_false, ck_t, reduceIte, Int.tmod_eq_emod_of_nonneg, Int.tdiv_eq_ediv_of_nonneg, ta0, ta1, P_isDigit_eq]
            rw [show p + 1 + 1 = p + 2 by omega]
          · rw [if_neg q4, if_neg q4]
            simp (disch := omega) only [c_lt_p, c_eq_p, c_ne_p, c_ge_p, c_gt_p, c_le_p, rd_p, wa_p, wz_p, w8_p, fz_p, fw_p, tw_p, ck_p, ob_s, oc_s, if_pos, if_neg, am_upo, up_s, ne_eq, not_true_eq_false, not_false_eq_true, true_or, or_true, true_and, and_true, false_and, and_false, ck_t, reduceIte, Int.tmod_eq_emod_of_nonneg, Int.tdiv_eq_ediv_of_nonneg, ta0, ta1, P_isDigit_eq]
        rw [st]
        unfold lgS
        rw [if_neg q1, if_neg (fun h => h q2), if_neg q3]
        by_cases q5 : nvS g n p = 0
        · rw [if_pos q5]
          refine ⟨-3000 - p, M, ?_, Ch.rf, by omega, if_pos (by omega)⟩
          unfold Legs_readLegs_72_117 P_faultAt
          simp (disch := omega) only [c_lt_p, c_eq_p, c_ne_p, c_ge_p, c_gt_p, c_le_p, rd_p, wa_p, wz_p, w8_p, fz_p, fw_p, tw_p, ck_p, ob_s, oc_s, if_pos, if_neg, am_upo, up_s, ne_eq, not_true_eq_false, not_false_eq_true, true_or, or_true, true_and, and_true, false_and, and_false, ck_t, reduceIte, Int.tmod_eq_emod_of_nonneg, Int.tdiv_eq_ediv_of_nonneg]
          rfl
        · rw [if_neg q5]
          have := legs_150 (y := y) (m := m) ho hn hg hG (k := k) (by omega) hv (p := npS g n p) (by omega) e hb (fun M' c h => readLegs_lp ho hn hg k m (npS g n p + 1) M' (by omega) (by omega) (hG.cg (fun i hi => c i (by simp; omega))) (by rw [c 14 (by decide)]; exact e) (by omega) (by omega) h)
          obtain ⟨w, N, e1, e2, e3, e4⟩ := this
          refine ⟨w, N, ?_, e2, e3, e4⟩
          unfold Legs_readLegs_72_117
          simp (disch := omega) only [c_lt_p, c_eq_p, c_ne_p, c_ge_p, c_gt_p, c_le_p, rd_p, wa_p, wz_p, w8_p, fz_p, fw_p, tw_p, ck_p, ob_s, oc_s, if_pos, if_neg, am_upo, up_s, ne_eq, not_true_eq_false, not_false_eq_true, true_or, or_true, true_and, and_true, false_and, and_false, ck_t, reduceIte, Int.tmod_eq_emod_of_nonneg, Int.tdiv_eq_ediv_of_nonneg, ta2]
          exact e1
    · refine ⟨-1000 - p, M, ?_, Ch.rf, by omega, ?_⟩
      · unfold Legs_readLegs_72_25 P_faultAt
        simp (disch := omega) only [c_lt_p, c_eq_p, c_ne_p, c_ge_p, c_gt_p, c_le_p, rd_p, wa_p, wz_p, w8_p, fz_p, fw_p, tw_p, ck_p, ob_s, oc_s, if_pos, if_neg, am_upo, up_s, ne_eq, not_true_eq_false, not_false_eq_true, true_or, or_true, true_and, and_true, false_and, and_false, ck_t, reduceIte, Int.tmod_eq_emod_of_nonneg, Int.tdiv_eq_ediv_of_nonneg, ta0, P_isDigit_eq]
        rfl
      · unfold lgS
        rw [if_pos (by omega), if_neg q1, if_pos q2]
theorem tellEnds_eq {M : am_M} {y : Int} (hy : am_R y) : Legs_tellEnds_72 y M = some (teS y (M 72 0) (M 72 1) (M 72 2) (M 72 3)) := by
  unfold Legs_tellEnds_72 teS
  rw [ck_p hy]
  repeat' split
  all_goals rfl
-- the reference's leg
def LJ (M N : am_M) : Prop := (∀ k, k ≠ 73 → N k = M k) ∧ ∀ j, j ≠ 3 → j ≠ 5 → (j < 84 ∨ 87 < j) → N 73 j = M 73 j
theorem PR.lj {F : FT} {g t u M N : am_M} (h : PR F g t u M) (e : LJ M N) : PR F g t u N := by
  obtain ⟨h1, h2, h3, h4⟩ := h
  refine ⟨?_, ?_, fun q => (h3 q).cg (fun k a => e.1 k (by omega)), h4.cg (fun k a b => e.1 k (by omega)) (e.2 19 (by decide) (by decide) (by decide))⟩
  · unfold GR at h1 ⊢
    rw [e.2 1 (by decide) (by decide) (by decide), e.2 42 (by decide) (by decide) (by decide), e.2 43 (by decide) (by decide) (by decide), e.2 19 (by decide) (by decide) (by decide), e.2 66 (by decide) (by decide) (by decide), e.1 74 (by decide), e.1 75 (by decide), e.1 92 (by decide), e.1 94 (by decide)]
    exact h1
  · unfold TR at h2 ⊢
    rw [e.2 41 (by decide) (by decide) (by decide), e.2 46 (by decide) (by decide) (by decide), e.2 47 (by decide) (by decide) (by decide), e.2 44 (by decide) (by decide) (by decide), e.2 45 (by decide) (by decide) (by decide), e.2 2 (by decide) (by decide) (by decide), e.1 93 (by decide), e.1 95 (by decide), e.1 96 (by decide), e.1 97 (by decide), e.1 98 (by decide), e.1 99 (by decide), e.1 100 (by decide)]
    exact h2
theorem LJ.tr {M N O : am_M} (a : LJ M N) (b : LJ N O) : LJ M O := ⟨fun k h => (b.1 k h).trans (a.1 k h), fun j h1 h2 h3 => (b.2 j h1 h2 h3).trans (a.2 j h1 h2 h3)⟩
theorem NF.lj {M N : am_M} (a : NF M N) : LJ M N := ⟨a.1, fun j h1 h2 _ => a.2 j h1 h2⟩
theorem LJ.up {M N : am_M} {j : Nat} {v : Int} (a : LJ M N) (h : j = 3 ∨ j = 5 ∨ (84 ≤ j ∧ j ≤ 87)) : LJ M (am_up N 73 j v) := ⟨fun k hk => by rw [upo hk]; exact a.1 k hk, fun i h1 h2 h3 => by rw [upx (by omega)]; exact a.2 i h1 h2 h3⟩
def l88 (o v c : Int) (M : am_M) : am_M := if c = 108 then am_up (am_up (am_up M 73 3 (M 73 3 + 1)) 73 84 (M 73 84 + -v)) 73 86 (M 73 86 + v / o) else if c = 114 then am_up (am_up (am_up M 73 3 (M 73 3 + 1)) 73 84 (M 73 84 + v)) 73 86 (M 73 86 + v / o) else if c = 102 then am_up (am_up (am_up M 73 3 (M 73 3 + 1)) 73 85 (M 73 85 + v)) 73 87 (M 73 87 + v / o) else am_up (am_up (am_up M 73 3 (M 73 3 + 1)) 73 85 (M 73 85 + -v)) 73 87 (M 73 87 + v / o)
theorem l88_j {o v c : Int} {M : am_M} : LJ M (l88 o v c M) := by
  have r : LJ M M := NF.rf.lj
  unfold l88
  repeat' split
  all_goals exact ((r.up (by decide)).up (by decide)).up (by decide)
theorem R_leg_88_eq {o v c : Int} {M : am_M} (ho : 1 ≤ o ∧ o ≤ 99) (hv : 0 ≤ v ∧ v ≤ 99) (hc : am_R c) : R_leg_88 o v c M = some (l88 o v c M) := by
  unfold R_leg_88 R_leg_112 R_leg_130 R_leg_167 R_leg_183 l88
  by_cases q1 : c = 108
  · simp (disch := omega) only [c_lt_p, c_eq_p, c_ne_p, c_ge_p, c_gt_p, c_le_p, rd_p, wa_p, wz_p, w8_p, fz_p, fw_p, tw_p, ck_p, ob_s, oc_s, if_pos, if_neg, am_upo, up_s, ne_eq, not_true_eq_false, not_false_eq_true, true_or, or_true, true_and, and_true, false_and, and_false, ck_t, reduceIte, Int.tmod_eq_emod_of_nonneg, Int.tdiv_eq_ediv_of_nonneg]
  · by_cases q2 : c = 114
    · simp (disch := omega) only [c_lt_p, c_eq_p, c_ne_p, c_ge_p, c_gt_p, c_le_p, rd_p, wa_p, wz_p, w8_p, fz_p, fw_p, tw_p, ck_p, ob_s, oc_s, if_pos, if_neg, am_upo, up_s, ne_eq, not_true_eq_false, not_false_eq_true, true_or, or_true, true_and, and_true, false_and, and_false, ck_t, reduceIte, Int.tmod_eq_emod_of_nonneg, Int.tdiv_eq_ediv_of_nonneg]
    · by_cases q3 : c = 102
      · simp (disch := omega) only [c_lt_p, c_eq_p, c_ne_p, c_ge_p, c_gt_p, c_le_p, rd_p, wa_p, wz_p, w8_p, fz_p, fw_p, tw_p, ck_p, ob_s, oc_s, if_pos, if_neg, am_upo, up_s, ne_eq, not_true_eq_false, not_false_eq_true, true_or, or_true, true_and, and_true, false_and, and_false, ck_t, reduceIte, Int.tmod_eq_emod_of_nonneg, Int.tdiv_eq_ediv_of_nonneg]
      · simp (disch := omega) only [c_lt_p, c_eq_p, c_ne_p, c_ge_p, c_gt_p, c_le_p, rd_p, wa_p, wz_p, w8_p, fz_p, fw_p, tw_p, ck_p, ob_s, oc_s, if_pos, if_neg, am_upo, up_s, ne_eq, not_true_eq_false, not_false_eq_true, true_or, or_true, true_and, and_true, false_and, and_false, ck_t, reduceIte, Int.tmod_eq_emod_of_nonneg, Int.tdiv_eq_ediv_of_nonneg]
theorem lgS_s {g : am_M} {n o y p r f a b : Int} {k : Nat} : lgS g n o y (k + 1) p r f a b = if taS g n p = -1 then teS y r f a b else if ¬ dgB g n p then -1000 - p else if k = 0 then -4000 - p else if nvS g n p = 0 then -3000 - p else if taS g n (npS g n p) = 108 then lgS g n o y k (npS g n p + 1) (r - nvS g n p) f (a + nvS g n p / o) b else if taS g n (npS g n p) = 114 then lgS g n o y k (npS g n p + 1) (r + nvS g n p) f (a + nvS g n p / o) b else if taS g n (npS g n p) = 102 then lgS g n o y k (npS g n p + 1) r (f + nvS g n p) a (b + nvS g n p / o) else if taS g n (npS g n p) = 98 then lgS g n o y k (npS g n p + 1) r (f - nvS g n p) a (b + nvS g n p / o) else -1000 - npS g n p := rfl
theorem R_leg_eq {F : FT} {g t u M : am_M} {n o y : Int} (ho : 1 ≤ o ∧ o ≤ 99) (hn : 1 ≤ n ∧ n ≤ 40) (hg : WG g) (hR : PR F g t u M) {k : Nat} (hk : k < 9) {p : Int} (hp : 0 ≤ p ∧ p < n) (e3 : M 73 3 = p) (e4 : M 73 4 = n) (e5 : M 73 5 = 0) (hb : lgK (k + 1) (M 73 84) (M 73 85) (M 73 86) (M 73 87)) : ∃ N, R_leg (8 - (k : Int)) o M = some N ∧ LJ M N ∧ ((-5000 ≤ N 73 5 ∧ N 73 5 < 0 ∧ lgS g n o y (k + 1) p (M 73 84) (M 73 85) (M 73 86) (M 73 87) = N 73 5) ∨ (1 ≤ k ∧ N 73 5 = 0 ∧ p < N 73 3 ∧ N 73 3 ≤ p + 3 ∧ lgK k (N 73 84) (N 73 85) (N 73 86) (N 73 87) ∧ lgS g n o y (k + 1) p (M 73 84) (M 73 85) (M 73 86) (M 73 87) = lgS g n o y k (N 73 3) (N 73 84) (N 73 85) (N 73 86) (N 73 87))) := by
  have hG := hR.1
  have ht := taS_b hg (n := n) (by omega) p
  have htp : taS g n p ≠ -1 := by
    have e : taS g n p = g 1 p.toNat := if_pos hp
    have := hg.2.1 p.toNat (by omega)
    omega
  have s1 := R_seesDigit_eq hg hG (n := n) hp.1 (by omega) (by omega) (by omega) e3 e4
  have g1 := R_isGood_eq (M := M) (by omega)
  rw [if_pos e5] at g1
  have t1 := R_here_eq hG (n := n) hp.1 (by omega) (by omega) (by omega) e3 e4
  have hh := heV_b ht
  have bad37 : ∀ {N : am_M} {v : Int}, LJ M N → (0 ≤ v ∧ v ≤ 99) → -5000 ≤ N 73 5 → N 73 5 < 0 → GR g N → N 73 4 = n → 0 ≤ N 73 3 → N 73 3 ≤ 300 → ∃ O, R_leg_37 o v N = some O ∧ LJ M O ∧ O 73 5 = N 73 5 := by
    intro N v lj hv h1 h2 hGN h4 h3 h3'
    have ht' := taS_b hg (n := n) (by omega) (N 73 3)
    have hh' := heV_b ht'
    have g2 := R_isGood_eq (M := N) (by omega)
    rw [if_neg (by omega)] at g2
    have t2 := R_here_eq hGN (n := n) h3 (by omega) (by omega) (by omega) rfl h4
    refine ⟨l88 o v (heV (taS g n (N 73 3))) N, ?_, lj.tr l88_j, ?_⟩
    · unfold R_leg_37
      rw [t2, ob_s, g2, ob_s, c_eq_p (by decide) (by decide), if_pos rfl, R_leg_88_eq ho hv (by omega)]
    · unfold l88
      repeat' split
      all_goals simp (disch := omega) only [c_lt_p, c_eq_p, c_ne_p, c_ge_p, c_gt_p, c_le_p, rd_p, wa_p, wz_p, w8_p, fz_p, fw_p, tw_p, ck_p, ob_s, oc_s, if_pos, if_neg, am_upo, up_s, ne_eq, not_true_eq_false, not_false_eq_true, true_or, or_true, true_and, and_true, false_and, and_false, ck_t, reduceIte, Int.tmod_eq_emod_of_nonneg, Int.tdiv_eq_ediv_of_nonneg]
  by_cases q2 : dgB g n p
  · rw [if_pos q2] at s1
    by_cases q3 : k = 0
    · have ew := R_wrongs_eq (M := M) (f := 4) (p := p) (by omega) (by omega)
      rw [if_neg (by omega), show (-1000 : Int) * 4 - p = -4000 - p by omega] at ew
      have f1 : NF M (am_up M 73 5 (-4000 - p)) := NF.rf.up (Or.inr rfl)
      have e51 : (am_up M 73 5 (-4000 - p)) 73 5 = -4000 - p := upj
      obtain ⟨O, o1, o2, o3⟩ := bad37 (v := 0) f1.lj (by omega) (by omega) (by omega) (hG.nf f1) (by rw [upx (by decide)]; exact e4) (by rw [upx (by decide)]; omega) (by rw [upx (by decide)]; omega)
      have g2 := R_isGood_eq (M := am_up M 73 5 (-4000 - p)) (by omega)
      rw [if_neg (by omega)] at g2
      refine ⟨O, ?_, o2, Or.inl ⟨by omega, by omega, ?_⟩⟩
      · unfold R_leg R_leg_22
        rw [s1, ob_s, c_eq_p (by decide) (by decide), if_neg (by decide), c_ne_p (by omega) (by omega), if_neg (by omega), e3, ew, ob_s, g2, ob_s, c_eq_p (by decide) (by decide), if_pos rfl]
        exact o1
      · unfold lgS
        rw [if_neg htp, if_neg (fun h => h q2), if_pos q3, o3, e51]
    · have hv := nvS_b q2
      have hnp := npS_b g n p
      have hq := dv_b hv.1 ho.1
      obtain ⟨N1, n1, n2, n3, n4⟩ := R_number_eq hg hG hp.1 (by omega) (by omega) (by omega) e3 e4 e5 q2
      have st : R_leg (8 - (k : Int)) o M = R_leg_37 o (nvS g n p) N1 := by
        unfold R_leg R_leg_22
        rw [s1, ob_s, c_eq_p (by decide) (by decide), if_neg (by decide), c_ne_p (by omega) (by omega), if_pos (by omega), g1, ob_s, c_eq_p (by decide) (by decide), if_neg (by decide), n1, oc_s]
      have e4' : N1 73 4 = n := by rw [n2.2 4 (by decide) (by decide)]; exact e4
      by_cases q5 : nvS g n p = 0
      · rw [if_pos q5] at n4
        obtain ⟨O, o1, o2, o3⟩ := bad37 (v := nvS g n p) n2.lj hv (by omega) (by omega) (hG.nf n2) e4' (by omega) (by omega)
        refine ⟨O, by rw [st]; exact o1, o2, Or.inl ⟨by omega, by omega, ?_⟩⟩
        unfold lgS
        rw [if_neg htp, if_neg (fun h => h q2), if_neg q3, if_pos q5, o3, n4]
      · rw [if_neg q5] at n4
        have g2 := R_isGood_eq (M := N1) (by omega)
        rw [if_pos n4] at g2
        have t2 := R_here_eq (hG.nf n2) (n := n) (p := npS g n p) (by omega) (by omega) (by omega) (by omega) n3 e4'
        have ht2 := taS_b hg (n := n) (by omega) (npS g n p)
        have hh2 := heV_b ht2
        have d84 := n2.2 84 (by decide) (by decide)
        have d85 := n2.2 85 (by decide) (by decide)
        have d86 := n2.2 86 (by decide) (by decide)
        have d87 := n2.2 87 (by decide) (by decide)
        have hc4 : ∀ c, c = taS g n (npS g n p) → (c = 108 ∨ c = 114 ∨ c = 102 ∨ c = 98) → R_leg_37 o (nvS g n p) N1 = some (l88 o (nvS g n p) c N1) := by
          intro c ec hc
          unfold R_leg_37
          rw [t2, ← ec, heV_p (by omega), ob_s, g2, ob_s, c_eq_p (by decide) (by decide), if_neg (by decide), R_leg_88_eq ho hv (by omega)]
          rcases hc with q | q | q | q
          · simp (disch := omega) only [c_lt_p, c_eq_p, c_ne_p, c_ge_p, c_gt_p, c_le_p, rd_p, wa_p, wz_p, w8_p, fz_p, fw_p, tw_p, ck_p, ob_s, oc_s, if_pos, if_neg, am_upo, up_s, ne_eq, not_true_eq_false, not_false_eq_true, true_or, or_true, true_and, and_true, false_and, and_false, ck_t, reduceIte, Int.tmod_eq_emod_of_nonneg, Int.tdiv_eq_ediv_of_nonneg]
          · simp (disch := omega) only [c_lt_p, c_eq_p, c_ne_p, c_ge_p, c_gt_p, c_le_p, rd_p, wa_p, wz_p, w8_p, fz_p, fw_p, tw_p, ck_p, ob_s, oc_s, if_pos, if_neg, am_upo, up_s, ne_eq, not_true_eq_false, not_false_eq_true, true_or, or_true, true_and, and_true, false_and, and_false, ck_t, reduceIte, Int.tmod_eq_emod_of_nonneg, Int.tdiv_eq_ediv_of_nonneg]
          · simp (disch := omega) only [c_lt_p, c_eq_p, c_ne_p, c_ge_p, c_gt_p, c_le_p, rd_p, wa_p, wz_p, w8_p, fz_p, fw_p, tw_p, ck_p, ob_s, oc_s, if_pos, if_neg, am_upo, up_s, ne_eq, not_true_eq_false, not_false_eq_true, true_or, or_true, true_and, and_true, false_and, and_false, ck_t, reduceIte, Int.tmod_eq_emod_of_nonneg, Int.tdiv_eq_ediv_of_nonneg]
          · simp (disch := omega) only [c_lt_p, c_eq_p, c_ne_p, c_ge_p, c_gt_p, c_le_p, rd_p, wa_p, wz_p, w8_p, fz_p, fw_p, tw_p, ck_p, ob_s, oc_s, if_pos, if_neg, am_upo, up_s, ne_eq, not_true_eq_false, not_false_eq_true, true_or, or_true, true_and, and_true, false_and, and_false, ck_t, reduceIte, Int.tmod_eq_emod_of_nonneg, Int.tdiv_eq_ediv_of_nonneg]
        by_cases c1 : taS g n (npS g n p) = 108
        · refine ⟨l88 o (nvS g n p) 108 N1, by rw [st]; exact hc4 108 c1.symm (by decide), n2.lj.tr l88_j, Or.inr ?_⟩
          rw [lgS_s, if_neg htp, if_neg (fun h => h q2), if_neg q3, if_neg q5, if_pos c1]
          unfold l88
          simp (disch := omega) only [c_lt_p, c_eq_p, c_ne_p, c_ge_p, c_gt_p, c_le_p, rd_p, wa_p, wz_p, w8_p, fz_p, fw_p, tw_p, ck_p, ob_s, oc_s, if_pos, if_neg, am_upo, up_s, ne_eq, not_true_eq_false, not_false_eq_true, true_or, or_true, true_and, and_true, false_and, and_false, ck_t, reduceIte, Int.tmod_eq_emod_of_nonneg, Int.tdiv_eq_ediv_of_nonneg, n3, d84, d85, d86, d87]
          refine ⟨by omega, n4, by omega, by omega, by omega, rfl⟩
        by_cases c2 : taS g n (npS g n p) = 114
        · refine ⟨l88 o (nvS g n p) 114 N1, by rw [st]; exact hc4 114 c2.symm (by decide), n2.lj.tr l88_j, Or.inr ?_⟩
          rw [lgS_s, if_neg htp, if_neg (fun h => h q2), if_neg q3, if_neg q5, if_neg c1, if_pos c2]
          unfold l88
          simp (disch := omega) only [c_lt_p, c_eq_p, c_ne_p, c_ge_p, c_gt_p, c_le_p, rd_p, wa_p, wz_p, w8_p, fz_p, fw_p, tw_p, ck_p, ob_s, oc_s, if_pos, if_neg, am_upo, up_s, ne_eq, not_true_eq_false, not_false_eq_true, true_or, or_true, true_and, and_true, false_and, and_false, ck_t, reduceIte, Int.tmod_eq_emod_of_nonneg, Int.tdiv_eq_ediv_of_nonneg, n3, d84, d85, d86, d87]
          refine ⟨by omega, n4, by omega, by omega, by omega⟩
        by_cases c3 : taS g n (npS g n p) = 102
        · refine ⟨l88 o (nvS g n p) 102 N1, by rw [st]; exact hc4 102 c3.symm (by decide), n2.lj.tr l88_j, Or.inr ?_⟩
          rw [lgS_s, if_neg htp, if_neg (fun h => h q2), if_neg q3, if_neg q5, if_neg c1, if_neg c2, if_pos c3]
          unfold l88
          simp (disch := omega) only [c_lt_p, c_eq_p, c_ne_p, c_ge_p, c_gt_p, c_le_p, rd_p, wa_p, wz_p, w8_p, fz_p, fw_p, tw_p, ck_p, ob_s, oc_s, if_pos, if_neg, am_upo, up_s, ne_eq, not_true_eq_false, not_false_eq_true, true_or, or_true, true_and, and_true, false_and, and_false, ck_t, reduceIte, Int.tmod_eq_emod_of_nonneg, Int.tdiv_eq_ediv_of_nonneg, n3, d84, d85, d86, d87]
          refine ⟨by omega, n4, by omega, by omega, by omega⟩
        by_cases c4 : taS g n (npS g n p) = 98
        · refine ⟨l88 o (nvS g n p) 98 N1, by rw [st]; exact hc4 98 c4.symm (by decide), n2.lj.tr l88_j, Or.inr ?_⟩
          rw [lgS_s, if_neg htp, if_neg (fun h => h q2), if_neg q3, if_neg q5, if_neg c1, if_neg c2, if_neg c3, if_pos c4]
          unfold l88
          simp (disch := omega) only [c_lt_p, c_eq_p, c_ne_p, c_ge_p, c_gt_p, c_le_p, rd_p, wa_p, wz_p, w8_p, fz_p, fw_p, tw_p, ck_p, ob_s, oc_s, if_pos, if_neg, am_upo, up_s, ne_eq, not_true_eq_false, not_false_eq_true, true_or, or_true, true_and, and_true, false_and, and_false, ck_t, reduceIte, Int.tmod_eq_emod_of_nonneg, Int.tdiv_eq_ediv_of_nonneg, n3, d84, d85, d86, d87]
          refine ⟨by omega, n4, by omega, by omega, by omega, rfl⟩
        · have ew := R_wrongs_eq (M := N1) (f := 1) (p := npS g n p) (by omega) (by omega)
          rw [if_neg (by omega), show (-1000 : Int) * 1 - npS g n p = -1000 - npS g n p by omega] at ew
          have hx : heV (taS g n (npS g n p)) ≠ 108 ∧ heV (taS g n (npS g n p)) ≠ 114 ∧ heV (taS g n (npS g n p)) ≠ 102 ∧ heV (taS g n (npS g n p)) ≠ 98 := by
            unfold heV
            split <;> omega
          refine ⟨l88 o (nvS g n p) (heV (taS g n (npS g n p))) (am_up N1 73 5 (-1000 - npS g n p)), ?_, (n2.up (Or.inr rfl)).lj.tr l88_j, Or.inl ?_⟩
          · rw [st]
            unfold R_leg_37
            rw [t2, ob_s, g2, ob_s, n3, ew]
            simp (disch := omega) only [c_lt_p, c_eq_p, c_ne_p, c_ge_p, c_gt_p, c_le_p, rd_p, wa_p, wz_p, w8_p, fz_p, fw_p, tw_p, ck_p, ob_s, oc_s, if_pos, if_neg, am_upo, up_s, ne_eq, not_true_eq_false, not_false_eq_true, true_or, or_true, true_and, and_true, false_and, and_false, ck_t, reduceIte, Int.tmod_eq_emod_of_nonneg, Int.tdiv_eq_ediv_of_nonneg, R_leg_88_eq ho hv]
          · have e55 : (l88 o (nvS g n p) (heV (taS g n (npS g n p))) (am_up N1 73 5 (-1000 - npS g n p))) 73 5 = -1000 - npS g n p := by
              unfold l88
              repeat' split
              all_goals first
                | (exfalso; omega)
                | simp (disch := omega) only [c_lt_p, c_eq_p, c_ne_p, c_ge_p, c_gt_p, c_le_p, rd_p, wa_p, wz_p, w8_p, fz_p, fw_p, tw_p, ck_p, ob_s, oc_s, if_pos, if_neg, am_upo, up_s, ne_eq, not_true_eq_false, not_false_eq_true, true_or, or_true, true_and, and_true, false_and, and_false, ck_t, reduceIte, Int.tmod_eq_emod_of_nonneg, Int.tdiv_eq_ediv_of_nonneg]
            rw [e55]
            refine ⟨by omega, by omega, ?_⟩
            unfold lgS
            rw [if_neg htp, if_neg (fun h => h q2), if_neg q3, if_neg q5, if_neg c1, if_neg c2, if_neg c3, if_neg c4]
  · rw [if_neg q2] at s1
    have f1 : NF M (am_up M 73 5 (-1000 - p)) := NF.rf.up (Or.inr rfl)
    have e51 : (am_up M 73 5 (-1000 - p)) 73 5 = -1000 - p := upj
    obtain ⟨O, o1, o2, o3⟩ := bad37 (v := 0) f1.lj (by omega) (by omega) (by omega) (hG.nf f1) (by rw [upx (by decide)]; exact e4) (by rw [upx (by decide)]; omega) (by rw [upx (by decide)]; omega)
    refine ⟨O, ?_, o2, Or.inl ⟨by omega, by omega, ?_⟩⟩
    · unfold R_leg R_leg_22
      rw [s1, ob_s, c_eq_p (by decide) (by decide), if_pos rfl, g1, ob_s, c_eq_p (by decide) (by decide), if_neg (by decide), R_number_no hg hG hp.1 (by omega) (by omega) (by omega) e3 e4 e5 q2, oc_s]
      exact o1
    · unfold lgS
      rw [if_neg htp, if_pos q2, o3, e51]
theorem R_paces_105_eq {M : am_M} {y : Int} (hy : am_R y) (h5 : am_R (M 73 5)) : R_paces_105 y M = some (if M 73 5 < 0 then M 73 5 else teS y (M 73 84) (M 73 85) (M 73 86) (M 73 87), M) := by
  unfold R_paces_105 teS
  rw [c_ge_p h5 (by decide), ck_p hy]
  repeat' split
  all_goals first
    | rfl
    | omega
theorem R_paces_lp {F : FT} {g t u : am_M} {n o y : Int} (ho : 1 ≤ o ∧ o ≤ 99) (hn : 1 ≤ n ∧ n ≤ 40) (hy : am_R y) (hg : WG g) : ∀ (k m : Nat) (p : Int) (M : am_M), k < 9 → k + 1 < m → PR F g t u M → M 73 3 = p → M 73 4 = n → M 73 5 = 0 → 0 ≤ p → p ≤ 100 → lgK (k + 1) (M 73 84) (M 73 85) (M 73 86) (M 73 87) → ∃ N, R_paces_74 m o y (8 - (k : Int)) M = some (lgS g n o y (k + 1) p (M 73 84) (M 73 85) (M 73 86) (M 73 87), N) ∧ PR F g t u N := by
  intro k
  induction k with
  | zero =>
    intro m p M hk hm hR e3 e4 e5 hp hp2 hb
    obtain ⟨m, rfl⟩ : ∃ m', m = m' + 2 := ⟨m - 2, by omega⟩
    have g1 := R_isGood_eq (M := M) (by omega)
    rw [if_pos e5] at g1
    by_cases q : n ≤ p
    · refine ⟨M, ?_, hR⟩
      have et : taS g n p = -1 := if_neg (by omega)
      rw [R_paces_74, g1, ob_s, c_eq_p (by decide) (by decide), if_neg (by decide), c_ge_p (by omega) (by omega), if_pos (by omega), R_paces_105_eq hy (by omega), if_neg (by omega)]
      unfold lgS
      rw [if_pos et]
    · obtain ⟨N, a1, a2, a3 | a3⟩ := R_leg_eq (y := y) ho hn hg hR (k := 0) hk (p := p) (by omega) e3 e4 e5 hb
      · have g2 := R_isGood_eq (M := N) (by omega)
        rw [if_neg (by omega)] at g2
        refine ⟨N, ?_, hR.lj a2⟩
        rw [R_paces_74, g1, ob_s, c_eq_p (by decide) (by decide), if_neg (by decide), c_ge_p (by omega) (by omega), if_neg (by omega), a1, ob_s, R_paces_74, g2, ob_s, c_eq_p (by decide) (by decide), if_pos rfl, R_paces_105_eq hy (by omega), if_pos a3.2.1, a3.2.2]
      · omega
  | succ k ih =>
    intro m p M hk hm hR e3 e4 e5 hp hp2 hb
    obtain ⟨m, rfl⟩ : ∃ m', m = m' + 2 := ⟨m - 2, by omega⟩
    have g1 := R_isGood_eq (M := M) (by omega)
    rw [if_pos e5] at g1
    by_cases q : n ≤ p
    · refine ⟨M, ?_, hR⟩
      have et : taS g n p = -1 := if_neg (by omega)
      rw [R_paces_74, g1, ob_s, c_eq_p (by decide) (by decide), if_neg (by decide), c_ge_p (by omega) (by omega), if_pos (by omega), R_paces_105_eq hy (by omega), if_neg (by omega)]
      unfold lgS
      rw [if_pos et]
    · obtain ⟨N, a1, a2, a3 | a3⟩ := R_leg_eq (y := y) ho hn hg hR (k := k + 1) hk (p := p) (by omega) e3 e4 e5 hb
      · have g2 := R_isGood_eq (M := N) (by omega)
        rw [if_neg (by omega)] at g2
        refine ⟨N, ?_, hR.lj a2⟩
        rw [R_paces_74, g1, ob_s, c_eq_p (by decide) (by decide), if_neg (by decide), c_ge_p (by omega) (by omega), if_neg (by omega), a1, ob_s, R_paces_74, g2, ob_s, c_eq_p (by decide) (by decide), if_pos rfl, R_paces_105_eq hy (by omega), if_pos a3.2.1, a3.2.2]
      · obtain ⟨b1, b2, b3, b4, b5, b6⟩ := a3
        obtain ⟨O, o1, o2⟩ := ih (m + 1) (N 73 3) N (by omega) (by omega) (hR.lj a2) rfl (by rw [a2.2 4 (by decide) (by decide) (by decide)]; exact e4) b2 (by omega) (by omega) b5
        refine ⟨O, ?_, o2⟩
        rw [R_paces_74, g1, ob_s, c_eq_p (by decide) (by decide), if_neg (by decide), c_ge_p (by omega) (by omega), if_neg (by omega), a1, ob_s, show (8 - ((k + 1 : Nat) : Int)) + 1 = 8 - (k : Int) by omega, b6]
        exact o1
theorem P_paces_ok {n : Nat} {x o y : Int} (hx : am_R x) (ho : am_R o) (hy : am_R y) : OK2 n (P_paces x o y) (R_paces x o y) := by
  refine OK2.of (lp := [14, 72]) (lr := [73]) (by decide) (by decide) (fun M r h => P_paces_c x o y M r h) (fun M r h => R_paces_c x o y M r h) (fun F g t u hW => ?_)
  have h1 := hW.1.1
  by_cases hc : (1 ≤ o ∧ o ≤ 99) ∧ (0 ≤ y ∧ y ≤ 4) ∧ (1 ≤ x ∧ x ≤ 40 ∧ x ≤ g 0 0)
  · have hb := lgS_b (g := tkS g) (n := x) (o := o) (y := y) hc.1.1 9 0 0 0 0 0 (by omega) (by omega) (by omega) (by omega) (by omega) (by omega) (by omega)
    refine ⟨lgS (tkS g) x o y 9 0 0 0 0 0, F, tkS g, t, u, hb, hW.tk, fun M hC => ?_, fun M hR => ?_⟩
    · have h2 := hC.tk (v := x)
      obtain ⟨M1, hM1⟩ : ∃ M1, M1 = am_up (am_up (am_up (am_up (am_up (am_up M 14 2 x) 14 1 0) 72 0 0) 72 1 0) 72 2 0) 72 3 0 := ⟨_, rfl⟩
      have c1 : Ch [72] (am_up (am_up M 14 2 x) 14 1 0) M1 := by
        rw [hM1]
        exact (((Ch.rf.up (by decide) rfl).up (by decide) rfl).up (by decide) rfl).up (by decide) rfl
      have z0 : M1 72 0 = 0 := by rw [hM1]; simp (disch := omega) only [c_lt_p, c_eq_p, c_ne_p, c_ge_p, c_gt_p, c_le_p, rd_p, wa_p, wz_p, w8_p, fz_p, fw_p, tw_p, ck_p, ob_s, oc_s, if_pos, if_neg, am_upo, up_s, ne_eq, not_true_eq_false, not_false_eq_true, true_or, or_true, true_and, and_true, false_and, and_false, ck_t, reduceIte, Int.tmod_eq_emod_of_nonneg, Int.tdiv_eq_ediv_of_nonneg]
      have z1 : M1 72 1 = 0 := by rw [hM1]; simp (disch := omega) only [c_lt_p, c_eq_p, c_ne_p, c_ge_p, c_gt_p, c_le_p, rd_p, wa_p, wz_p, w8_p, fz_p, fw_p, tw_p, ck_p, ob_s, oc_s, if_pos, if_neg, am_upo, up_s, ne_eq, not_true_eq_false, not_false_eq_true, true_or, or_true, true_and, and_true, false_and, and_false, ck_t, reduceIte, Int.tmod_eq_emod_of_nonneg, Int.tdiv_eq_ediv_of_nonneg]
      have z2 : M1 72 2 = 0 := by rw [hM1]; simp (disch := omega) only [c_lt_p, c_eq_p, c_ne_p, c_ge_p, c_gt_p, c_le_p, rd_p, wa_p, wz_p, w8_p, fz_p, fw_p, tw_p, ck_p, ob_s, oc_s, if_pos, if_neg, am_upo, up_s, ne_eq, not_true_eq_false, not_false_eq_true, true_or, or_true, true_and, and_true, false_and, and_false, ck_t, reduceIte, Int.tmod_eq_emod_of_nonneg, Int.tdiv_eq_ediv_of_nonneg]
      have z3 : M1 72 3 = 0 := by rw [hM1]; simp (disch := omega) only [c_lt_p, c_eq_p, c_ne_p, c_ge_p, c_gt_p, c_le_p, rd_p, wa_p, wz_p, w8_p, fz_p, fw_p, tw_p, ck_p, ob_s, oc_s, if_pos, if_neg, am_upo, up_s, ne_eq, not_true_eq_false, not_false_eq_true, true_or, or_true, true_and, and_true, false_and, and_false, ck_t, reduceIte, Int.tmod_eq_emod_of_nonneg, Int.tdiv_eq_ediv_of_nonneg]
      obtain ⟨w, N, a1, a2, a3, a4⟩ := readLegs_lp (y := y) hc.1 (n := x) (by omega) (tkS_W hW.1) 9 am_big 0 M1 (by omega) (by decide) (h2.1.cg (fun k hk => c1 k (by simp; omega))) (by rw [hM1]; simp (disch := omega) only [c_lt_p, c_eq_p, c_ne_p, c_ge_p, c_gt_p, c_le_p, rd_p, wa_p, wz_p, w8_p, fz_p, fw_p, tw_p, ck_p, ob_s, oc_s, if_pos, if_neg, am_upo, up_s, ne_eq, not_true_eq_false, not_false_eq_true, true_or, or_true, true_and, and_true, false_and, and_false, ck_t, reduceIte, Int.tmod_eq_emod_of_nonneg, Int.tdiv_eq_ediv_of_nonneg]) (by omega) (by omega) (by rw [z0, z1, z2, z3]; omega)
      rw [z0, z1, z2, z3] at a4
      refine ⟨N, ?_, (h2.cg (fun _ _ => rfl) (by omega) : PC F (tkS g) t u (n + 1) _).1.cg (fun k hk => ?_), ?_⟩
      · unfold P_paces P_paces_34 P_paces_68 Legs_readLegs_72
        rw [c_lt_p (by omega) (by omega), if_neg (by omega), c_gt_p (by omega) (by omega), if_neg (by omega), c_lt_p (by omega) (by omega), if_neg (by omega), c_gt_p (by omega) (by omega), if_neg (by omega), Tape_take_eq hW.1 hC.1 hx (by decide) (by decide), if_pos hc.2.2, oc_s, c_ne_p (by decide) (by decide), if_pos (by decide), fw_p, fw_p, fw_p, fw_p, ← hM1, show (0 : Int) = 9 - ((9 : Nat) : Int) from rfl, show (9 - ((9 : Nat) : Int) : Int) = 0 from rfl]
        have a1' : Legs_readLegs_72_25 am_big o 0 0 M1 = some (w, N) := a1
        rw [a1', oc_s, c_ge_p (by omega) (by omega), tellEnds_eq hy, ob_s, ← a4]
        by_cases q : w < 0
        · rw [if_neg (by omega), if_pos q]
        · rw [if_pos (by omega), if_neg q]
      · rw [a2 k (by simp; omega), c1 k (by simp; omega)]
      · have h3 := (h2.cg (fun _ _ => rfl) (by omega) : PC F (tkS g) t u (n + 1) _)
        have f : ∀ k, k ≠ 72 → N k = (am_up (am_up M 14 2 x) 14 1 0) k := fun k hk => by rw [a2 k (by simp; omega), c1 k (by simp; omega)]
        exact ⟨h3.2.1.cg (fun k a b => f k (by omega)), fun q => (h3.2.2.1 q).cg (fun k a b => f k (by omega)), h3.2.2.2.1.cg (fun k a b => f k (by omega)), h3.2.2.2.2.cg (fun k a b => f k (by omega)) (Nat.le_refl _)⟩
    · obtain ⟨M1, e1, h2, h3, h4, h5⟩ := hR.bg (x := x)
      have e : M 73 1 = g 0 0 := hR.1.1.1
      obtain ⟨M2, hM2⟩ : ∃ M2, M2 = am_up (am_up (am_up (am_up M1 73 84 0) 73 85 0) 73 86 0) 73 87 0 := ⟨_, rfl⟩
      have r : LJ M1 M1 := NF.rf.lj
      have c1 : LJ M1 M2 := by
        rw [hM2]
        exact (((r.up (by decide)).up (by decide)).up (by decide)).up (by decide)
      have z0 : M2 73 84 = 0 := by rw [hM2]; simp (disch := omega) only [c_lt_p, c_eq_p, c_ne_p, c_ge_p, c_gt_p, c_le_p, rd_p, wa_p, wz_p, w8_p, fz_p, fw_p, tw_p, ck_p, ob_s, oc_s, if_pos, if_neg, am_upo, up_s, ne_eq, not_true_eq_false, not_false_eq_true, true_or, or_true, true_and, and_true, false_and, and_false, ck_t, reduceIte, Int.tmod_eq_emod_of_nonneg, Int.tdiv_eq_ediv_of_nonneg]
      have z1 : M2 73 85 = 0 := by rw [hM2]; simp (disch := omega) only [c_lt_p, c_eq_p, c_ne_p, c_ge_p, c_gt_p, c_le_p, rd_p, wa_p, wz_p, w8_p, fz_p, fw_p, tw_p, ck_p, ob_s, oc_s, if_pos, if_neg, am_upo, up_s, ne_eq, not_true_eq_false, not_false_eq_true, true_or, or_true, true_and, and_true, false_and, and_false, ck_t, reduceIte, Int.tmod_eq_emod_of_nonneg, Int.tdiv_eq_ediv_of_nonneg]
      have z2 : M2 73 86 = 0 := by rw [hM2]; simp (disch := omega) only [c_lt_p, c_eq_p, c_ne_p, c_ge_p, c_gt_p, c_le_p, rd_p, wa_p, wz_p, w8_p, fz_p, fw_p, tw_p, ck_p, ob_s, oc_s, if_pos, if_neg, am_upo, up_s, ne_eq, not_true_eq_false, not_false_eq_true, true_or, or_true, true_and, and_true, false_and, and_false, ck_t, reduceIte, Int.tmod_eq_emod_of_nonneg, Int.tdiv_eq_ediv_of_nonneg]
      have z3 : M2 73 87 = 0 := by rw [hM2]; simp (disch := omega) only [c_lt_p, c_eq_p, c_ne_p, c_ge_p, c_gt_p, c_le_p, rd_p, wa_p, wz_p, w8_p, fz_p, fw_p, tw_p, ck_p, ob_s, oc_s, if_pos, if_neg, am_upo, up_s, ne_eq, not_true_eq_false, not_false_eq_true, true_or, or_true, true_and, and_true, false_and, and_false, ck_t, reduceIte, Int.tmod_eq_emod_of_nonneg, Int.tdiv_eq_ediv_of_nonneg]
      obtain ⟨N, a1, a2⟩ := R_paces_lp (n := x) (y := y) hc.1 (by omega) hy (tkS_W hW.1) 8 am_big 0 M2 (by omega) (by decide) (h2.lj c1) (by rw [hM2]; simp (disch := omega) only [c_lt_p, c_eq_p, c_ne_p, c_ge_p, c_gt_p, c_le_p, rd_p, wa_p, wz_p, w8_p, fz_p, fw_p, tw_p, ck_p, ob_s, oc_s, if_pos, if_neg, am_upo, up_s, ne_eq, not_true_eq_false, not_false_eq_true, true_or, or_true, true_and, and_true, false_and, and_false, ck_t, reduceIte, Int.tmod_eq_emod_of_nonneg, Int.tdiv_eq_ediv_of_nonneg]; exact h3) (by rw [hM2]; simp (disch := omega) only [c_lt_p, c_eq_p, c_ne_p, c_ge_p, c_gt_p, c_le_p, rd_p, wa_p, wz_p, w8_p, fz_p, fw_p, tw_p, ck_p, ob_s, oc_s, if_pos, if_neg, am_upo, up_s, ne_eq, not_true_eq_false, not_false_eq_true, true_or, or_true, true_and, and_true, false_and, and_false, ck_t, reduceIte, Int.tmod_eq_emod_of_nonneg, Int.tdiv_eq_ediv_of_nonneg]; exact h4) (by rw [hM2]; simp (disch := omega) only [c_lt_p, c_eq_p, c_ne_p, c_ge_p, c_gt_p, c_le_p, rd_p, wa_p, wz_p, w8_p, fz_p, fw_p, tw_p, ck_p, ob_s, oc_s, if_pos, if_neg, am_upo, up_s, ne_eq, not_true_eq_false, not_false_eq_true, true_or, or_true, true_and, and_true, false_and, and_false, ck_t, reduceIte, Int.tmod_eq_emod_of_nonneg, Int.tdiv_eq_ediv_of_nonneg]; exact h5) (by omega) (by omega) (by rw [z0, z1, z2, z3]; omega)
      rw [z0, z1, z2, z3] at a1
      refine ⟨N, ?_, a2⟩
      unfold R_paces
      simp (disch := omega) only [c_lt_p, c_eq_p, c_ne_p, c_ge_p, c_gt_p, c_le_p, rd_p, wa_p, wz_p, w8_p, fz_p, fw_p, tw_p, ck_p, ob_s, oc_s, if_pos, if_neg, am_upo, up_s, ne_eq, not_true_eq_false, not_false_eq_true, true_or, or_true, true_and, and_true, false_and, and_false, ck_t, reduceIte, Int.tmod_eq_emod_of_nonneg, Int.tdiv_eq_ediv_of_nonneg, R_lies_eq, e, e1]
      rw [← hM2]
      exact a1
  · refine ⟨-1, F, g, t, u, by decide, hW, fun M hC => ⟨M, ?_, hC.cg (fun _ _ => rfl) (by omega)⟩, fun M hR => ⟨M, ?_, hR⟩⟩
    · unfold P_paces P_paces_34
      by_cases q1 : o < 1
      · simp (disch := omega) only [c_lt_p, c_eq_p, c_ne_p, c_ge_p, c_gt_p, c_le_p, rd_p, wa_p, wz_p, w8_p, fz_p, fw_p, tw_p, ck_p, ob_s, oc_s, if_pos, if_neg, am_upo, up_s, ne_eq, not_true_eq_false, not_false_eq_true, true_or, or_true, true_and, and_true, false_and, and_false, ck_t, reduceIte, Int.tmod_eq_emod_of_nonneg, Int.tdiv_eq_ediv_of_nonneg]
      by_cases q2 : 99 < o
      · simp (disch := omega) only [c_lt_p, c_eq_p, c_ne_p, c_ge_p, c_gt_p, c_le_p, rd_p, wa_p, wz_p, w8_p, fz_p, fw_p, tw_p, ck_p, ob_s, oc_s, if_pos, if_neg, am_upo, up_s, ne_eq, not_true_eq_false, not_false_eq_true, true_or, or_true, true_and, and_true, false_and, and_false, ck_t, reduceIte, Int.tmod_eq_emod_of_nonneg, Int.tdiv_eq_ediv_of_nonneg]
      by_cases q3 : y < 0
      · simp (disch := omega) only [c_lt_p, c_eq_p, c_ne_p, c_ge_p, c_gt_p, c_le_p, rd_p, wa_p, wz_p, w8_p, fz_p, fw_p, tw_p, ck_p, ob_s, oc_s, if_pos, if_neg, am_upo, up_s, ne_eq, not_true_eq_false, not_false_eq_true, true_or, or_true, true_and, and_true, false_and, and_false, ck_t, reduceIte, Int.tmod_eq_emod_of_nonneg, Int.tdiv_eq_ediv_of_nonneg]
      by_cases q4 : 4 < y
      · simp (disch := omega) only [c_lt_p, c_eq_p, c_ne_p, c_ge_p, c_gt_p, c_le_p, rd_p, wa_p, wz_p, w8_p, fz_p, fw_p, tw_p, ck_p, ob_s, oc_s, if_pos, if_neg, am_upo, up_s, ne_eq, not_true_eq_false, not_false_eq_true, true_or, or_true, true_and, and_true, false_and, and_false, ck_t, reduceIte, Int.tmod_eq_emod_of_nonneg, Int.tdiv_eq_ediv_of_nonneg]
      rw [c_lt_p (by omega) (by omega), if_neg (by omega), c_gt_p (by omega) (by omega), if_neg (by omega), c_lt_p (by omega) (by omega), if_neg (by omega), c_gt_p (by omega) (by omega), if_neg (by omega), Tape_take_eq hW.1 hC.1 hx (by decide) (by decide), if_neg (by omega), oc_s, c_ne_p (by decide) (by decide), if_neg (by decide)]
    · have e : M 73 1 = g 0 0 := hR.1.1.1
      unfold R_paces R_paces_44
      by_cases q : 1 ≤ x ∧ x ≤ 40
      · by_cases q1 : 1 ≤ o ∧ o ≤ 99
        · by_cases q2 : 0 ≤ y ∧ y ≤ 4
          · simp (disch := omega) only [c_lt_p, c_eq_p, c_ne_p, c_ge_p, c_gt_p, c_le_p, rd_p, wa_p, wz_p, w8_p, fz_p, fw_p, tw_p, ck_p, ob_s, oc_s, if_pos, if_neg, am_upo, up_s, ne_eq, not_true_eq_false, not_false_eq_true, true_or, or_true, true_and, and_true, false_and, and_false, ck_t, reduceIte, Int.tmod_eq_emod_of_nonneg, Int.tdiv_eq_ediv_of_nonneg, R_lies_eq, e]
          · simp (disch := omega) only [c_lt_p, c_eq_p, c_ne_p, c_ge_p, c_gt_p, c_le_p, rd_p, wa_p, wz_p, w8_p, fz_p, fw_p, tw_p, ck_p, ob_s, oc_s, if_pos, if_neg, am_upo, up_s, ne_eq, not_true_eq_false, not_false_eq_true, true_or, or_true, true_and, and_true, false_and, and_false, ck_t, reduceIte, Int.tmod_eq_emod_of_nonneg, Int.tdiv_eq_ediv_of_nonneg, R_lies_eq, e]
        · simp (disch := omega) only [c_lt_p, c_eq_p, c_ne_p, c_ge_p, c_gt_p, c_le_p, rd_p, wa_p, wz_p, w8_p, fz_p, fw_p, tw_p, ck_p, ob_s, oc_s, if_pos, if_neg, am_upo, up_s, ne_eq, not_true_eq_false, not_false_eq_true, true_or, or_true, true_and, and_true, false_and, and_false, ck_t, reduceIte, Int.tmod_eq_emod_of_nonneg, Int.tdiv_eq_ediv_of_nonneg, R_lies_eq, e]
      · simp (disch := omega) only [c_lt_p, c_eq_p, c_ne_p, c_ge_p, c_gt_p, c_le_p, rd_p, wa_p, wz_p, w8_p, fz_p, fw_p, tw_p, ck_p, ob_s, oc_s, if_pos, if_neg, am_upo, up_s, ne_eq, not_true_eq_false, not_false_eq_true, true_or, or_true, true_and, and_true, false_and, and_false, ck_t, reduceIte, Int.tmod_eq_emod_of_nonneg, Int.tdiv_eq_ediv_of_nonneg, R_lies_eq, e]
