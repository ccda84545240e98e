-- sights
abbrev siB (c : Int) : Prop := c = 109 ∨ c = 102 ∨ c = 50 ∨ c = 46
theorem Trip_isSight_eq {c : Int} {M : am_M} (hc : am_R c) : Trip_isSight c M = some (if siB c then 1 else 0) := by
  unfold Trip_isSight Trip_isSight_24 Trip_isSight_29
  unfold siB
  by_cases q1 : c = 109
  · simp (disch := omega) only [c_lt_p, c_eq_p, c_ne_p, c_ge_p, c_gt_p, c_le_p, rd_p, wa_p, wz_p, w8_p, fz_p, fw_p, tw_p, ck_p, ob_s, oc_s, if_pos, if_neg, am_upo, up_s, ne_eq, not_true_eq_false, not_false_eq_true, true_or, or_true, true_and, and_true, false_and, and_false, ck_t, reduceIte, Int.tmod_eq_emod_of_nonneg, Int.tdiv_eq_ediv_of_nonneg]
  · by_cases q2 : c = 102
    · simp (disch := omega) only [c_lt_p, c_eq_p, c_ne_p, c_ge_p, c_gt_p, c_le_p, rd_p, wa_p, wz_p, w8_p, fz_p, fw_p, tw_p, ck_p, ob_s, oc_s, if_pos, if_neg, am_upo, up_s, ne_eq, not_true_eq_false, not_false_eq_true, true_or, or_true, true_and, and_true, false_and, and_false, ck_t, reduceIte, Int.tmod_eq_emod_of_nonneg, Int.tdiv_eq_ediv_of_nonneg]
    · by_cases q3 : c = 50
      · simp (disch := omega) only [c_lt_p, c_eq_p, c_ne_p, c_ge_p, c_gt_p, c_le_p, rd_p, wa_p, wz_p, w8_p, fz_p, fw_p, tw_p, ck_p, ob_s, oc_s, if_pos, if_neg, am_upo, up_s, ne_eq, not_true_eq_false, not_false_eq_true, true_or, or_true, true_and, and_true, false_and, and_false, ck_t, reduceIte, Int.tmod_eq_emod_of_nonneg, Int.tdiv_eq_ediv_of_nonneg]
      · by_cases q4 : c = 46
        · simp (disch := omega) only [c_lt_p, c_eq_p, c_ne_p, c_ge_p, c_gt_p, c_le_p, rd_p, wa_p, wz_p, w8_p, fz_p, fw_p, tw_p, ck_p, ob_s, oc_s, if_pos, if_neg, am_upo, up_s, ne_eq, not_true_eq_false, not_false_eq_true, true_or, or_true, true_and, and_true, false_and, and_false, ck_t, reduceIte, Int.tmod_eq_emod_of_nonneg, Int.tdiv_eq_ediv_of_nonneg]
        · simp (disch := omega) only [c_lt_p, c_eq_p, c_ne_p, c_ge_p, c_gt_p, c_le_p, rd_p, wa_p, wz_p, w8_p, fz_p, fw_p, tw_p, ck_p, ob_s, oc_s, if_pos, if_neg, am_upo, up_s, ne_eq, not_true_eq_false, not_false_eq_true, true_or, or_true, true_and, and_true, false_and, and_false, ck_t, reduceIte, Int.tmod_eq_emod_of_nonneg, Int.tdiv_eq_ediv_of_nonneg]
theorem R_isSight_eq {c : Int} {M : am_M} (hc : am_R c) : R_isSight c M = some (if siB c then 1 else 0) := by
  unfold R_isSight R_isSight_24 R_isSight_29
  unfold siB
  by_cases q1 : c = 109
  · simp (disch := omega) only [c_lt_p, c_eq_p, c_ne_p, c_ge_p, c_gt_p, c_le_p, rd_p, wa_p, wz_p, w8_p, fz_p, fw_p, tw_p, ck_p, ob_s, oc_s, if_pos, if_neg, am_upo, up_s, ne_eq, not_true_eq_false, not_false_eq_true, true_or, or_true, true_and, and_true, false_and, and_false, ck_t, reduceIte, Int.tmod_eq_emod_of_nonneg, Int.tdiv_eq_ediv_of_nonneg]
  · by_cases q2 : c = 102
    · simp (disch := omega) only [c_lt_p, c_eq_p, c_ne_p, c_ge_p, c_gt_p, c_le_p, rd_p, wa_p, wz_p, w8_p, fz_p, fw_p, tw_p, ck_p, ob_s, oc_s, if_pos, if_neg, am_upo, up_s, ne_eq, not_true_eq_false, not_false_eq_true, true_or, or_true, true_and, and_true, false_and, and_false, ck_t, reduceIte, Int.tmod_eq_emod_of_nonneg, Int.tdiv_eq_ediv_of_nonneg]
    · by_cases q3 : c = 50
      · simp (disch := omega) only [c_lt_p, c_eq_p, c_ne_p, c_ge_p, c_gt_p, c_le_p, rd_p, wa_p, wz_p, w8_p, fz_p, fw_p, tw_p, ck_p, ob_s, oc_s, if_pos, if_neg, am_upo, up_s, ne_eq, not_true_eq_false, not_false_eq_true, true_or, or_true, true_and, and_true, false_and, and_false, ck_t, reduceIte, Int.tmod_eq_emod_of_nonneg, Int.tdiv_eq_ediv_of_nonneg]
      · by_cases q4 : c = 46
        · simp (disch := omega) only [c_lt_p, c_eq_p, c_ne_p, c_ge_p, c_gt_p, c_le_p, rd_p, wa_p, wz_p, w8_p, fz_p, fw_p, tw_p, ck_p, ob_s, oc_s, if_pos, if_neg, am_upo, up_s, ne_eq, not_true_eq_false, not_false_eq_true, true_or, or_true, true_and, and_true, false_and, and_false, ck_t, reduceIte, Int.tmod_eq_emod_of_nonneg, Int.tdiv_eq_ediv_of_nonneg]
        · simp (disch := omega) only [c_lt_p, c_eq_p, c_ne_p, c_ge_p, c_gt_p, c_le_p, rd_p, wa_p, wz_p, w8_p, fz_p, fw_p, tw_p, ck_p, ob_s, oc_s, if_pos, if_neg, am_upo, up_s, ne_eq, not_true_eq_false, not_false_eq_true, true_or, or_true, true_and, and_true, false_and, and_false, ck_t, reduceIte, Int.tmod_eq_emod_of_nonneg, Int.tdiv_eq_ediv_of_nonneg]
def sgS (t g : am_M) (p : Int) : Int := if fkS t g p = 0 then (if mkS t p < 2 then 46 else 109) else (if mkS t p < 2 then 102 else 50)
theorem sgS_b (t g : am_M) (p : Int) : 0 ≤ sgS t g p ∧ sgS t g p ≤ 255 := by
  unfold sgS
  repeat' split
  all_goals omega
theorem Trip_sightAt_eq {t g M : am_M} (hw : WT t) (hg : WG g) (hT : TP 26 t M) (hG : GP g M) {p : Int} (h0 : 0 ≤ p) (h1 : p < t 0 1) : Trip_sightAt_26 p M = some (sgS t g p) := by
  have hl := hw.1
  have hm := mkS_b hw p
  unfold Trip_sightAt_26 Trip_sightAt_26_15 Trip_sightAt_26_47 Trip_sightAt_26_35
  unfold sgS
  rcases fkS_01 t g p with q | q
  · by_cases q2 : mkS t p < 2
    · simp (disch := omega) only [c_lt_p, c_eq_p, c_ne_p, c_ge_p, c_gt_p, c_le_p, rd_p, wa_p, wz_p, w8_p, fz_p, fw_p, tw_p, ck_p, ob_s, oc_s, if_pos, if_neg, am_upo, up_s, ne_eq, not_true_eq_false, not_false_eq_true, true_or, or_true, true_and, and_true, false_and, and_false, ck_t, reduceIte, Int.tmod_eq_emod_of_nonneg, Int.tdiv_eq_ediv_of_nonneg, Trip_marksAt_26_eq hw hT, b_and_2, Trip_isFork_26_eq hw hg hT hG, q]
    · simp (disch := omega) only [c_lt_p, c_eq_p, c_ne_p, c_ge_p, c_gt_p, c_le_p, rd_p, wa_p, wz_p, w8_p, fz_p, fw_p, tw_p, ck_p, ob_s, oc_s, if_pos, if_neg, am_upo, up_s, ne_eq, not_true_eq_false, not_false_eq_true, true_or, or_true, true_and, and_true, false_and, and_false, ck_t, reduceIte, Int.tmod_eq_emod_of_nonneg, Int.tdiv_eq_ediv_of_nonneg, Trip_marksAt_26_eq hw hT, b_and_2, Trip_isFork_26_eq hw hg hT hG, q]
  · by_cases q2 : mkS t p < 2
    · simp (disch := omega) only [c_lt_p, c_eq_p, c_ne_p, c_ge_p, c_gt_p, c_le_p, rd_p, wa_p, wz_p, w8_p, fz_p, fw_p, tw_p, ck_p, ob_s, oc_s, if_pos, if_neg, am_upo, up_s, ne_eq, not_true_eq_false, not_false_eq_true, true_or, or_true, true_and, and_true, false_and, and_false, ck_t, reduceIte, Int.tmod_eq_emod_of_nonneg, Int.tdiv_eq_ediv_of_nonneg, Trip_marksAt_26_eq hw hT, b_and_2, Trip_isFork_26_eq hw hg hT hG, q]
    · simp (disch := omega) only [c_lt_p, c_eq_p, c_ne_p, c_ge_p, c_gt_p, c_le_p, rd_p, wa_p, wz_p, w8_p, fz_p, fw_p, tw_p, ck_p, ob_s, oc_s, if_pos, if_neg, am_upo, up_s, ne_eq, not_true_eq_false, not_false_eq_true, true_or, or_true, true_and, and_true, false_and, and_false, ck_t, reduceIte, Int.tmod_eq_emod_of_nonneg, Int.tdiv_eq_ediv_of_nonneg, Trip_marksAt_26_eq hw hT, b_and_2, Trip_isFork_26_eq hw hg hT hG, q]
theorem R_isSeenSo_eq {t g M : am_M} (hw : WT t) (hg : WG g) (hT : TR t M) (hG : GR g M) {p c : Int} (h0 : 0 ≤ p) (h1 : p < t 0 1) (hc : siB c) : R_isSeenSo p c M = some (if sgS t g p = c then 1 else 0) := by
  have hl := hw.1
  have hm := mkS_b hw p
  have d4 : mkS t p = t 5 p.toNat := if_pos ⟨h0, h1⟩
  have e4 := (hT.2.1 p.toNat (by omega)).2.2.2.1
  unfold siB at hc
  unfold R_isSeenSo R_isSeenSo_16 R_isSeenSo_30 R_isSeenSo_35 R_isSeenSo_55 R_isSeenSo_60 R_isSeenSo_67 R_isSeenSo_68
  rcases fkS_01 t g p with q | q
  · by_cases q2 : mkS t p < 2
    · have es : sgS t g p = 46 := by unfold sgS; rw [if_pos q, if_pos q2]
      rw [es]
      rw [d4] at q2 hm
      rcases hc with rfl | rfl | rfl | rfl
      · simp (disch := omega) only [c_lt_p, c_eq_p, c_ne_p, c_ge_p, c_gt_p, c_le_p, rd_p, wa_p, wz_p, w8_p, fz_p, fw_p, tw_p, ck_p, ob_s, oc_s, if_pos, if_neg, am_upo, up_s, ne_eq, not_true_eq_false, not_false_eq_true, true_or, or_true, true_and, and_true, false_and, and_false, ck_t, reduceIte, Int.tmod_eq_emod_of_nonneg, Int.tdiv_eq_ediv_of_nonneg, e4, b_and_2, R_isFork_eq hw hg hT hG, q]
      · simp (disch := omega) only [c_lt_p, c_eq_p, c_ne_p, c_ge_p, c_gt_p, c_le_p, rd_p, wa_p, wz_p, w8_p, fz_p, fw_p, tw_p, ck_p, ob_s, oc_s, if_pos, if_neg, am_upo, up_s, ne_eq, not_true_eq_false, not_false_eq_true, true_or, or_true, true_and, and_true, false_and, and_false, ck_t, reduceIte, Int.tmod_eq_emod_of_nonneg, Int.tdiv_eq_ediv_of_nonneg, e4, b_and_2, R_isFork_eq hw hg hT hG, q]
      · simp (disch := omega) only [c_lt_p, c_eq_p, c_ne_p, c_ge_p, c_gt_p, c_le_p, rd_p, wa_p, wz_p, w8_p, fz_p, fw_p, tw_p, ck_p, ob_s, oc_s, if_pos, if_neg, am_upo, up_s, ne_eq, not_true_eq_false, not_false_eq_true, true_or, or_true, true_and, and_true, false_and, and_false, ck_t, reduceIte, Int.tmod_eq_emod_of_nonneg, Int.tdiv_eq_ediv_of_nonneg, e4, b_and_2, R_isFork_eq hw hg hT hG, q]
      · simp (disch := omega) only [c_lt_p, c_eq_p, c_ne_p, c_ge_p, c_gt_p, c_le_p, rd_p, wa_p, wz_p, w8_p, fz_p, fw_p, tw_p, ck_p, ob_s, oc_s, if_pos, if_neg, am_upo, up_s, ne_eq, not_true_eq_false, not_false_eq_true, true_or, or_true, true_and, and_true, false_and, and_false, ck_t, reduceIte, Int.tmod_eq_emod_of_nonneg, Int.tdiv_eq_ediv_of_nonneg, e4, b_and_2, R_isFork_eq hw hg hT hG, q]
    · have es : sgS t g p = 109 := by unfold sgS; rw [if_pos q, if_neg q2]
      rw [es]
      rw [d4] at q2 hm
      rcases hc with rfl | rfl | rfl | rfl
      · simp (disch := omega) only [c_lt_p, c_eq_p, c_ne_p, c_ge_p, c_gt_p, c_le_p, rd_p, wa_p, wz_p, w8_p, fz_p, fw_p, tw_p, ck_p, ob_s, oc_s, if_pos, if_neg, am_upo, up_s, ne_eq, not_true_eq_false, not_false_eq_true, true_or, or_true, true_and, and_true, false_and, and_false, ck_t, reduceIte, Int.tmod_eq_emod_of_nonneg, Int.tdiv_eq_ediv_of_nonneg, e4, b_and_2, R_isFork_eq hw hg hT hG, q]
      · simp (disch := omega) only [c_lt_p, c_eq_p, c_ne_p, c_ge_p, c_gt_p, c_le_p, rd_p, wa_p, wz_p, w8_p, fz_p, fw_p, tw_p, ck_p, ob_s, oc_s, if_pos, if_neg, am_upo, up_s, ne_eq, not_true_eq_false, not_false_eq_true, true_or, or_true, true_and, and_true, false_and, and_false, ck_t, reduceIte, Int.tmod_eq_emod_of_nonneg, Int.tdiv_eq_ediv_of_nonneg, e4, b_and_2, R_isFork_eq hw hg hT hG, q]
      · simp (disch := omega) only [c_lt_p, c_eq_p, c_ne_p, c_ge_p, c_gt_p, c_le_p, rd_p, wa_p, wz_p, w8_p, fz_p, fw_p, tw_p, ck_p, ob_s, oc_s, if_pos, if_neg, am_upo, up_s, ne_eq, not_true_eq_false, not_false_eq_true, true_or, or_true, true_and, and_true, false_and, and_false, ck_t, reduceIte, Int.tmod_eq_emod_of_nonneg, Int.tdiv_eq_ediv_of_nonneg, e4, b_and_2, R_isFork_eq hw hg hT hG, q]
      · simp (disch := omega) only [c_lt_p, c_eq_p, c_ne_p, c_ge_p, c_gt_p, c_le_p, rd_p, wa_p, wz_p, w8_p, fz_p, fw_p, tw_p, ck_p, ob_s, oc_s, if_pos, if_neg, am_upo, up_s, ne_eq, not_true_eq_false, not_false_eq_true, true_or, or_true, true_and, and_true, false_and, and_false, ck_t, reduceIte, Int.tmod_eq_emod_of_nonneg, Int.tdiv_eq_ediv_of_nonneg, e4, b_and_2, R_isFork_eq hw hg hT hG, q]
  · by_cases q2 : mkS t p < 2
    · have es : sgS t g p = 102 := by unfold sgS; rw [if_neg (by omega), if_pos q2]
      rw [es]
      rw [d4] at q2 hm
      rcases hc with rfl | rfl | rfl | rfl
      · simp (disch := omega) only [c_lt_p, c_eq_p, c_ne_p, c_ge_p, c_gt_p, c_le_p, rd_p, wa_p, wz_p, w8_p, fz_p, fw_p, tw_p, ck_p, ob_s, oc_s, if_pos, if_neg, am_upo, up_s, ne_eq, not_true_eq_false, not_false_eq_true, true_or, or_true, true_and, and_true, false_and, and_false, ck_t, reduceIte, Int.tmod_eq_emod_of_nonneg, Int.tdiv_eq_ediv_of_nonneg, e4, b_and_2, R_isFork_eq hw hg hT hG, q]
      · simp (disch := omega) only [c_lt_p, c_eq_p, c_ne_p, c_ge_p, c_gt_p, c_le_p, rd_p, wa_p, wz_p, w8_p, fz_p, fw_p, tw_p, ck_p, ob_s, oc_s, if_pos, if_neg, am_upo, up_s, ne_eq, not_true_eq_false, not_false_eq_true, true_or, or_true, true_and, and_true, false_and, and_false, ck_t, reduceIte, Int.tmod_eq_emod_of_nonneg, Int.tdiv_eq_ediv_of_nonneg, e4, b_and_2, R_isFork_eq hw hg hT hG, q]
      · simp (disch := omega) only [c_lt_p, c_eq_p, c_ne_p, c_ge_p, c_gt_p, c_le_p, rd_p, wa_p, wz_p, w8_p, fz_p, fw_p, tw_p, ck_p, ob_s, oc_s, if_pos, if_neg, am_upo, up_s, ne_eq, not_true_eq_false, not_false_eq_true, true_or, or_true, true_and, and_true, false_and, and_false, ck_t, reduceIte, Int.tmod_eq_emod_of_nonneg, Int.tdiv_eq_ediv_of_nonneg, e4, b_and_2, R_isFork_eq hw hg hT hG, q]
      · simp (disch := omega) only [c_lt_p, c_eq_p, c_ne_p, c_ge_p, c_gt_p, c_le_p, rd_p, wa_p, wz_p, w8_p, fz_p, fw_p, tw_p, ck_p, ob_s, oc_s, if_pos, if_neg, am_upo, up_s, ne_eq, not_true_eq_false, not_false_eq_true, true_or, or_true, true_and, and_true, false_and, and_false, ck_t, reduceIte, Int.tmod_eq_emod_of_nonneg, Int.tdiv_eq_ediv_of_nonneg, e4, b_and_2, R_isFork_eq hw hg hT hG, q]
    · have es : sgS t g p = 50 := by unfold sgS; rw [if_neg (by omega), if_neg q2]
      rw [es]
      rw [d4] at q2 hm
      rcases hc with rfl | rfl | rfl | rfl
      · simp (disch := omega) only [c_lt_p, c_eq_p, c_ne_p, c_ge_p, c_gt_p, c_le_p, rd_p, wa_p, wz_p, w8_p, fz_p, fw_p, tw_p, ck_p, ob_s, oc_s, if_pos, if_neg, am_upo, up_s, ne_eq, not_true_eq_false, not_false_eq_true, true_or, or_true, true_and, and_true, false_and, and_false, ck_t, reduceIte, Int.tmod_eq_emod_of_nonneg, Int.tdiv_eq_ediv_of_nonneg, e4, b_and_2, R_isFork_eq hw hg hT hG, q]
      · simp (disch := omega) only [c_lt_p, c_eq_p, c_ne_p, c_ge_p, c_gt_p, c_le_p, rd_p, wa_p, wz_p, w8_p, fz_p, fw_p, tw_p, ck_p, ob_s, oc_s, if_pos, if_neg, am_upo, up_s, ne_eq, not_true_eq_false, not_false_eq_true, true_or, or_true, true_and, and_true, false_and, and_false, ck_t, reduceIte, Int.tmod_eq_emod_of_nonneg, Int.tdiv_eq_ediv_of_nonneg, e4, b_and_2, R_isFork_eq hw hg hT hG, q]
      · simp (disch := omega) only [c_lt_p, c_eq_p, c_ne_p, c_ge_p, c_gt_p, c_le_p, rd_p, wa_p, wz_p, w8_p, fz_p, fw_p, tw_p, ck_p, ob_s, oc_s, if_pos, if_neg, am_upo, up_s, ne_eq, not_true_eq_false, not_false_eq_true, true_or, or_true, true_and, and_true, false_and, and_false, ck_t, reduceIte, Int.tmod_eq_emod_of_nonneg, Int.tdiv_eq_ediv_of_nonneg, e4, b_and_2, R_isFork_eq hw hg hT hG, q]
      · simp (disch := omega) only [c_lt_p, c_eq_p, c_ne_p, c_ge_p, c_gt_p, c_le_p, rd_p, wa_p, wz_p, w8_p, fz_p, fw_p, tw_p, ck_p, ob_s, oc_s, if_pos, if_neg, am_upo, up_s, ne_eq, not_true_eq_false, not_false_eq_true, true_or, or_true, true_and, and_true, false_and, and_false, ck_t, reduceIte, Int.tmod_eq_emod_of_nonneg, Int.tdiv_eq_ediv_of_nonneg, e4, b_and_2, R_isFork_eq hw hg hT hG, q]
def seS (t g : am_M) (p : Int) : Nat → Int → Int
  | 0, _ => 1
  | k + 1, i => if sgS t g (p - i) = g 1 i.toNat then seS t g p k (i + 1) else 0
theorem seS_01 (t g : am_M) (p : Int) : ∀ (k : Nat) (i : Int), seS t g p k i = 0 ∨ seS t g p k i = 1
  | 0, _ => Or.inr rfl
  | k + 1, i => by
    unfold seS
    split
    · exact seS_01 t g p k (i + 1)
    · exact Or.inl rfl
theorem sightsFrom_lp {t g M : am_M} (hw : WT t) (hg : WG g) (hT : TP 26 t M) (hG : GP g M) {x p : Int} (hx : 1 ≤ x ∧ x ≤ 20) (e : M 14 2 = x) (hp : x - 1 ≤ p) (hp1 : p < t 0 1) : ∀ (k n : Nat) (i : Int), i + k = x → 0 ≤ i → k + 1 < n → P_sightsFrom_5 n p x 1 i M = some (seS t g p k i)
  | 0, n + 1, i, h, h0, hn => by
    unfold P_sightsFrom_5 P_sightsFrom_50 seS
    simp (disch := omega) only [c_lt_p, c_eq_p, c_ne_p, c_ge_p, c_gt_p, c_le_p, rd_p, wa_p, wz_p, w8_p, fz_p, fw_p, tw_p, ck_p, ob_s, oc_s, if_pos, if_neg, am_upo, up_s, ne_eq, not_true_eq_false, not_false_eq_true, true_or, or_true, true_and, and_true, false_and, and_false, ck_t, reduceIte, Int.tmod_eq_emod_of_nonneg, Int.tdiv_eq_ediv_of_nonneg]
  | k + 1, n + 1, i, h, h0, hn => by
    have hl := hw.1
    have ih := sightsFrom_lp hw hg hT hG hx e hp hp1 k n (i + 1) (by omega) (by omega) (by omega)
    have b1 := sgS_b t g (p - i)
    have b2 := hg.2.1 i.toNat (by omega)
    have e1 : taS g x i = g 1 i.toNat := if_pos ⟨h0, by omega⟩
    unfold P_sightsFrom_5 P_sightsFrom_50 P_sightsFrom_43 seS
    by_cases hc : sgS t g (p - i) = g 1 i.toNat
    · simp (disch := omega) only [c_lt_p, c_eq_p, c_ne_p, c_ge_p, c_gt_p, c_le_p, rd_p, wa_p, wz_p, w8_p, fz_p, fw_p, tw_p, ck_p, ob_s, oc_s, if_pos, if_neg, am_upo, up_s, ne_eq, not_true_eq_false, not_false_eq_true, true_or, or_true, true_and, and_true, false_and, and_false, ck_t, reduceIte, Int.tmod_eq_emod_of_nonneg, Int.tdiv_eq_ediv_of_nonneg, Tape_at_eq hG e, e1, Trip_sightAt_eq hw hg hT hG, ih]
    · simp (disch := omega) only [c_lt_p, c_eq_p, c_ne_p, c_ge_p, c_gt_p, c_le_p, rd_p, wa_p, wz_p, w8_p, fz_p, fw_p, tw_p, ck_p, ob_s, oc_s, if_pos, if_neg, am_upo, up_s, ne_eq, not_true_eq_false, not_false_eq_true, true_or, or_true, true_and, and_true, false_and, and_false, ck_t, reduceIte, Int.tmod_eq_emod_of_nonneg, Int.tdiv_eq_ediv_of_nonneg, Tape_at_eq hG e, e1, Trip_sightAt_eq hw hg hT hG]
      obtain ⟨n', rfl⟩ : ∃ n', n = n' + 1 := ⟨n - 1, by omega⟩
      unfold P_sightsFrom_5 P_sightsFrom_50
      by_cases q : x ≤ i + 1
      · simp (disch := omega) only [c_lt_p, c_eq_p, c_ne_p, c_ge_p, c_gt_p, c_le_p, rd_p, wa_p, wz_p, w8_p, fz_p, fw_p, tw_p, ck_p, ob_s, oc_s, if_pos, if_neg, am_upo, up_s, ne_eq, not_true_eq_false, not_false_eq_true, true_or, or_true, true_and, and_true, false_and, and_false, ck_t, reduceIte, Int.tmod_eq_emod_of_nonneg, Int.tdiv_eq_ediv_of_nonneg]
      · simp (disch := omega) only [c_lt_p, c_eq_p, c_ne_p, c_ge_p, c_gt_p, c_le_p, rd_p, wa_p, wz_p, w8_p, fz_p, fw_p, tw_p, ck_p, ob_s, oc_s, if_pos, if_neg, am_upo, up_s, ne_eq, not_true_eq_false, not_false_eq_true, true_or, or_true, true_and, and_true, false_and, and_false, ck_t, reduceIte, Int.tmod_eq_emod_of_nonneg, Int.tdiv_eq_ediv_of_nonneg]
theorem areSeen_lp {t g M : am_M} (hw : WT t) (hg : WG g) (hT : TR t M) (hG : GR g M) {x p : Int} (hx : 1 ≤ x ∧ x ≤ 20) (hs : ∀ i : Nat, (i : Int) < x → siB (g 1 i)) (hp : x - 1 ≤ p) (hp1 : p < t 0 1) : ∀ (k n : Nat) (i : Int), i + k = x → 0 ≤ i → k < n → R_areSeenFrom_2 n p x i M = some (seS t g p k i)
  | 0, n + 1, i, h, h0, hn => by
    unfold R_areSeenFrom_2 seS
    simp (disch := omega) only [c_lt_p, c_eq_p, c_ne_p, c_ge_p, c_gt_p, c_le_p, rd_p, wa_p, wz_p, w8_p, fz_p, fw_p, tw_p, ck_p, ob_s, oc_s, if_pos, if_neg, am_upo, up_s, ne_eq, not_true_eq_false, not_false_eq_true, true_or, or_true, true_and, and_true, false_and, and_false, ck_t, reduceIte, Int.tmod_eq_emod_of_nonneg, Int.tdiv_eq_ediv_of_nonneg]
  | k + 1, n + 1, i, h, h0, hn => by
    have hl := hw.1
    have ih := areSeen_lp hw hg hT hG hx hs hp hp1 k n (i + 1) (by omega) (by omega) (by omega)
    have b2 := hg.2.1 i.toNat (by omega)
    have hsi := hs i.toNat (by omega)
    have e2 := R_isSeenSo_eq hw hg hT hG (p := p - i) (by omega) (by omega) hsi
    unfold R_areSeenFrom_2 seS
    by_cases hc : sgS t g (p - i) = g 1 i.toNat
    · simp (disch := omega) only [c_lt_p, c_eq_p, c_ne_p, c_ge_p, c_gt_p, c_le_p, rd_p, wa_p, wz_p, w8_p, fz_p, fw_p, tw_p, ck_p, ob_s, oc_s, if_pos, if_neg, am_upo, up_s, ne_eq, not_true_eq_false, not_false_eq_true, true_or, or_true, true_and, and_true, false_and, and_false, ck_t, reduceIte, Int.tmod_eq_emod_of_nonneg, Int.tdiv_eq_ediv_of_nonneg, R_byteAt_eq hG, e2, ih]
    · simp (disch := omega) only [c_lt_p, c_eq_p, c_ne_p, c_ge_p, c_gt_p, c_le_p, rd_p, wa_p, wz_p, w8_p, fz_p, fw_p, tw_p, ck_p, ob_s, oc_s, if_pos, if_neg, am_upo, up_s, ne_eq, not_true_eq_false, not_false_eq_true, true_or, or_true, true_and, and_true, false_and, and_false, ck_t, reduceIte, Int.tmod_eq_emod_of_nonneg, Int.tdiv_eq_ediv_of_nonneg, R_byteAt_eq hG, e2, ih]
def slS (t g : am_M) (x y : Int) : Nat → Int → Int → Int → Int → Int
  | 0, c, lo, hi, _ => if y = 0 then c else if y = 1 then lo else hi
  | k + 1, c, lo, hi, p => if seS t g p x.toNat 0 = 0 then slS t g x y k c lo hi (p + 1) else slS t g x y k (c + 1) (if lo < 0 then p else lo) p (p + 1)
theorem slS_b (t g : am_M) (x y : Int) : ∀ (k : Nat) (c lo hi p : Int), 0 ≤ c ∧ c + k ≤ 200 → -2 ≤ lo ∧ lo ≤ 200 → -2 ≤ hi ∧ hi ≤ 200 → 0 ≤ p ∧ p + k ≤ 200 → -2 ≤ slS t g x y k c lo hi p ∧ slS t g x y k c lo hi p ≤ 200
  | 0, c, lo, hi, p, h1, h2, h3, h4 => by
    unfold slS
    repeat' split
    all_goals omega
  | k + 1, c, lo, hi, p, h1, h2, h3, h4 => by
    unfold slS
    split
    · exact slS_b t g x y k c lo hi (p + 1) (by omega) h2 h3 (by omega)
    · exact slS_b t g x y k (c + 1) (if lo < 0 then p else lo) p (p + 1) (by omega) (by split <;> omega) (by omega) (by omega)
theorem P_sights_lp {t g M : am_M} (hw : WT t) (hg : WG g) (hT : TP 26 t M) (hG : GP g M) {x y : Int} (hx : 1 ≤ x ∧ x ≤ 20) (hy : 0 ≤ y ∧ y ≤ 2) (e : M 14 2 = x) : ∀ (k n : Nat) (c lo hi p : Int), k = (t 0 1 - p).toNat → x - 1 ≤ p → p ≤ 200 → k < n → -2 ≤ lo ∧ lo ≤ 200 → P_sights_73 n x y c lo hi p M = some (slS t g x y k c lo hi p, M)
  | 0, n + 1, c, lo, hi, p, hk, hp, hp2, hn, hlo => by
    have hl := hw.1
    have e10 : M 26 10 = t 0 1 := hT.1.2.1
    unfold P_sights_73 P_sights_140 slS
    by_cases q : y = 0
    · simp (disch := omega) only [c_lt_p, c_eq_p, c_ne_p, c_ge_p, c_gt_p, c_le_p, rd_p, wa_p, wz_p, w8_p, fz_p, fw_p, tw_p, ck_p, ob_s, oc_s, if_pos, if_neg, am_upo, up_s, ne_eq, not_true_eq_false, not_false_eq_true, true_or, or_true, true_and, and_true, false_and, and_false, ck_t, reduceIte, Int.tmod_eq_emod_of_nonneg, Int.tdiv_eq_ediv_of_nonneg, e10]
    · by_cases q2 : y = 1
      · simp (disch := omega) only [c_lt_p, c_eq_p, c_ne_p, c_ge_p, c_gt_p, c_le_p, rd_p, wa_p, wz_p, w8_p, fz_p, fw_p, tw_p, ck_p, ob_s, oc_s, if_pos, if_neg, am_upo, up_s, ne_eq, not_true_eq_false, not_false_eq_true, true_or, or_true, true_and, and_true, false_and, and_false, ck_t, reduceIte, Int.tmod_eq_emod_of_nonneg, Int.tdiv_eq_ediv_of_nonneg, e10]
      · simp (disch := omega) only [c_lt_p, c_eq_p, c_ne_p, c_ge_p, c_gt_p, c_le_p, rd_p, wa_p, wz_p, w8_p, fz_p, fw_p, tw_p, ck_p, ob_s, oc_s, if_pos, if_neg, am_upo, up_s, ne_eq, not_true_eq_false, not_false_eq_true, true_or, or_true, true_and, and_true, false_and, and_false, ck_t, reduceIte, Int.tmod_eq_emod_of_nonneg, Int.tdiv_eq_ediv_of_nonneg, e10]
  | k + 1, n + 1, c, lo, hi, p, hk, hp, hp2, hn, hlo => by
    have hl := hw.1
    have e10 : M 26 10 = t 0 1 := hT.1.2.1
    have ih := P_sights_lp hw hg hT hG hx hy e k n
    have es : P_sightsFrom p x M = some (seS t g p x.toNat 0) := sightsFrom_lp hw hg hT hG hx e hp (by omega) x.toNat am_big 0 (by omega) (by omega) (by show _ < 1000000; omega)
    unfold P_sights_73 P_sights_110 P_sights_116 slS
    rcases seS_01 t g p x.toNat 0 with q | q
    · rw [if_pos q, ← ih c lo hi (p + 1) (by omega) (by omega) (by omega) (by omega) hlo]
      simp (disch := omega) only [c_lt_p, c_eq_p, c_ne_p, c_ge_p, c_gt_p, c_le_p, rd_p, wa_p, wz_p, w8_p, fz_p, fw_p, tw_p, ck_p, ob_s, oc_s, if_pos, if_neg, am_upo, up_s, ne_eq, not_true_eq_false, not_false_eq_true, true_or, or_true, true_and, and_true, false_and, and_false, ck_t, reduceIte, Int.tmod_eq_emod_of_nonneg, Int.tdiv_eq_ediv_of_nonneg, e10, es, q]
    · rw [if_neg (by omega)]
      by_cases q2 : lo < 0
      · rw [if_pos q2, ← ih (c + 1) p p (p + 1) (by omega) (by omega) (by omega) (by omega) (by omega)]
        simp (disch := omega) only [c_lt_p, c_eq_p, c_ne_p, c_ge_p, c_gt_p, c_le_p, rd_p, wa_p, wz_p, w8_p, fz_p, fw_p, tw_p, ck_p, ob_s, oc_s, if_pos, if_neg, am_upo, up_s, ne_eq, not_true_eq_false, not_false_eq_true, true_or, or_true, true_and, and_true, false_and, and_false, ck_t, reduceIte, Int.tmod_eq_emod_of_nonneg, Int.tdiv_eq_ediv_of_nonneg, e10, es, q]
      · rw [if_neg q2, ← ih (c + 1) lo p (p + 1) (by omega) (by omega) (by omega) (by omega) (by omega)]
        simp (disch := omega) only [c_lt_p, c_eq_p, c_ne_p, c_ge_p, c_gt_p, c_le_p, rd_p, wa_p, wz_p, w8_p, fz_p, fw_p, tw_p, ck_p, ob_s, oc_s, if_pos, if_neg, am_upo, up_s, ne_eq, not_true_eq_false, not_false_eq_true, true_or, or_true, true_and, and_true, false_and, and_false, ck_t, reduceIte, Int.tmod_eq_emod_of_nonneg, Int.tdiv_eq_ediv_of_nonneg, e10, es, q]
theorem R_sights_lp {t g M : am_M} (hw : WT t) (hg : WG g) (hT : TR t M) (hG : GR g M) {x y : Int} (hx : 1 ≤ x ∧ x ≤ 20) (hy : 0 ≤ y ∧ y ≤ 2) (hs : ∀ i : Nat, (i : Int) < x → siB (g 1 i)) : ∀ (k n : Nat) (c lo hi p : Int), k = (t 0 1 - p).toNat → x - 1 ≤ p → p ≤ 200 → k < n → (lo = -2 ∨ (0 ≤ lo ∧ lo ≤ 200)) → R_sights_96 n x y c lo hi p M = some (slS t g x y k c lo hi p, M)
  | 0, n + 1, c, lo, hi, p, hk, hp, hp2, hn, hlo => by
    have hl := hw.1
    have e10 : M 73 46 = t 0 1 := hT.1.2.1
    unfold R_sights_96 R_sights_167 slS
    by_cases q : y = 0
    · simp (disch := omega) only [c_lt_p, c_eq_p, c_ne_p, c_ge_p, c_gt_p, c_le_p, rd_p, wa_p, wz_p, w8_p, fz_p, fw_p, tw_p, ck_p, ob_s, oc_s, if_pos, if_neg, am_upo, up_s, ne_eq, not_true_eq_false, not_false_eq_true, true_or, or_true, true_and, and_true, false_and, and_false, ck_t, reduceIte, Int.tmod_eq_emod_of_nonneg, Int.tdiv_eq_ediv_of_nonneg, e10]
    · by_cases q2 : y = 1
      · simp (disch := omega) only [c_lt_p, c_eq_p, c_ne_p, c_ge_p, c_gt_p, c_le_p, rd_p, wa_p, wz_p, w8_p, fz_p, fw_p, tw_p, ck_p, ob_s, oc_s, if_pos, if_neg, am_upo, up_s, ne_eq, not_true_eq_false, not_false_eq_true, true_or, or_true, true_and, and_true, false_and, and_false, ck_t, reduceIte, Int.tmod_eq_emod_of_nonneg, Int.tdiv_eq_ediv_of_nonneg, e10]
      · simp (disch := omega) only [c_lt_p, c_eq_p, c_ne_p, c_ge_p, c_gt_p, c_le_p, rd_p, wa_p, wz_p, w8_p, fz_p, fw_p, tw_p, ck_p, ob_s, oc_s, if_pos, if_neg, am_upo, up_s, ne_eq, not_true_eq_false, not_false_eq_true, true_or, or_true, true_and, and_true, false_and, and_false, ck_t, reduceIte, Int.tmod_eq_emod_of_nonneg, Int.tdiv_eq_ediv_of_nonneg, e10]
  | k + 1, n + 1, c, lo, hi, p, hk, hp, hp2, hn, hlo => by
    have hl := hw.1
    have e10 : M 73 46 = t 0 1 := hT.1.2.1
    have ih := R_sights_lp hw hg hT hG hx hy hs k n
    have es : R_areSeenFrom p x M = some (seS t g p x.toNat 0) := areSeen_lp hw hg hT hG hx hs hp (by omega) x.toNat am_big 0 (by omega) (by omega) (by show _ < 1000000; omega)
    unfold R_sights_96 R_sights_135 R_sights_141 slS
    rcases seS_01 t g p x.toNat 0 with q | q
    · rw [if_pos q, ← ih c lo hi (p + 1) (by omega) (by omega) (by omega) (by omega) hlo]
      simp (disch := omega) only [c_lt_p, c_eq_p, c_ne_p, c_ge_p, c_gt_p, c_le_p, rd_p, wa_p, wz_p, w8_p, fz_p, fw_p, tw_p, ck_p, ob_s, oc_s, if_pos, if_neg, am_upo, up_s, ne_eq, not_true_eq_false, not_false_eq_true, true_or, or_true, true_and, and_true, false_and, and_false, ck_t, reduceIte, Int.tmod_eq_emod_of_nonneg, Int.tdiv_eq_ediv_of_nonneg, e10, es, q]
    · rw [if_neg (by omega)]
      by_cases q2 : lo < 0
      · rw [if_pos q2, ← ih (c + 1) p p (p + 1) (by omega) (by omega) (by omega) (by omega) (by omega)]
        simp (disch := omega) only [c_lt_p, c_eq_p, c_ne_p, c_ge_p, c_gt_p, c_le_p, rd_p, wa_p, wz_p, w8_p, fz_p, fw_p, tw_p, ck_p, ob_s, oc_s, if_pos, if_neg, am_upo, up_s, ne_eq, not_true_eq_false, not_false_eq_true, true_or, or_true, true_and, and_true, false_and, and_false, ck_t, reduceIte, Int.tmod_eq_emod_of_nonneg, Int.tdiv_eq_ediv_of_nonneg, e10, es, q]
      · rw [if_neg q2, ← ih (c + 1) lo p (p + 1) (by omega) (by omega) (by omega) (by omega) (by omega)]
        simp (disch := omega) only [c_lt_p, c_eq_p, c_ne_p, c_ge_p, c_gt_p, c_le_p, rd_p, wa_p, wz_p, w8_p, fz_p, fw_p, tw_p, ck_p, ob_s, oc_s, if_pos, if_neg, am_upo, up_s, ne_eq, not_true_eq_false, not_false_eq_true, true_or, or_true, true_and, and_true, false_and, and_false, ck_t, reduceIte, Int.tmod_eq_emod_of_nonneg, Int.tdiv_eq_ediv_of_nonneg, e10, es, q]
/-- the first that is no sight, as a fault -/
def cfS (g : am_M) : Nat → Int → Int
  | 0, _ => 0
  | k + 1, i => if siB (g 1 i.toNat) then cfS g k (i + 1) else -1000 - i
theorem cfS_b (g : am_M) : ∀ (k : Nat) (i : Int), 0 ≤ i → i + k ≤ 200 → -2000 ≤ cfS g k i ∧ cfS g k i ≤ 0
  | 0, i, h, h2 => by unfold cfS; omega
  | k + 1, i, h, h2 => by
    have := cfS_b g k (i + 1) (by omega) (by omega)
    unfold cfS
    split <;> omega
theorem cfS_0 (g : am_M) : ∀ (k : Nat) (i : Int), 0 ≤ i → cfS g k i = 0 → ∀ j : Nat, i ≤ (j : Int) → (j : Int) < i + k → siB (g 1 j)
  | 0, i, h, h2, j, h3, h4 => by omega
  | k + 1, i, h, h2, j, h3, h4 => by
    unfold cfS at h2
    by_cases q : siB (g 1 i.toNat)
    · rw [if_pos q] at h2
      by_cases q2 : (j : Int) = i
      · rw [show j = i.toNat by omega]
        exact q
      · exact cfS_0 g k (i + 1) (by omega) h2 j (by omega) (by omega)
    · rw [if_neg q] at h2
      omega
theorem P_sights_fa {g M : am_M} (hg : WG g) (hG : GP g M) {x y : Int} (hx : 1 ≤ x ∧ x ≤ 20) (e : M 14 2 = x) : ∀ (k n : Nat) (i : Int), i + k = x → 0 ≤ i → k < n → P_sights_27 n x y i M = if cfS g k i = 0 then P_sights_73 am_big x y 0 (-2) (-2) (x - 1) M else some (cfS g k i, M)
  | 0, n + 1, i, h, h0, hn => by
    unfold P_sights_27 cfS
    simp (disch := omega) only [c_lt_p, c_eq_p, c_ne_p, c_ge_p, c_gt_p, c_le_p, rd_p, wa_p, wz_p, w8_p, fz_p, fw_p, tw_p, ck_p, ob_s, oc_s, if_pos, if_neg, am_upo, up_s, ne_eq, not_true_eq_false, not_false_eq_true, true_or, or_true, true_and, and_true, false_and, and_false, ck_t, reduceIte, Int.tmod_eq_emod_of_nonneg, Int.tdiv_eq_ediv_of_nonneg]
  | k + 1, n + 1, i, h, h0, hn => by
    have ih := P_sights_fa (y := y) hg hG hx e k n (i + 1) (by omega) (by omega) (by omega)
    have b2 := hg.2.1 i.toNat (by omega)
    have e1 : taS g x i = g 1 i.toNat := if_pos ⟨h0, by omega⟩
    unfold P_sights_27 cfS
    by_cases hc : siB (g 1 i.toNat)
    · rw [if_pos hc, ← ih]
      simp (disch := omega) only [c_lt_p, c_eq_p, c_ne_p, c_ge_p, c_gt_p, c_le_p, rd_p, wa_p, wz_p, w8_p, fz_p, fw_p, tw_p, ck_p, ob_s, oc_s, if_pos, if_neg, am_upo, up_s, ne_eq, not_true_eq_false, not_false_eq_true, true_or, or_true, true_and, and_true, false_and, and_false, ck_t, reduceIte, Int.tmod_eq_emod_of_nonneg, Int.tdiv_eq_ediv_of_nonneg, Tape_at_eq hG e, e1, Trip_isSight_eq]
    · rw [if_neg hc, if_neg (show ¬ (-1000 - i = 0) by omega)]
      unfold P_faultAt
      simp (disch := omega) only [c_lt_p, c_eq_p, c_ne_p, c_ge_p, c_gt_p, c_le_p, rd_p, wa_p, wz_p, w8_p, fz_p, fw_p, tw_p, ck_p, ob_s, oc_s, if_pos, if_neg, am_upo, up_s, ne_eq, not_true_eq_false, not_false_eq_true, true_or, or_true, true_and, and_true, false_and, and_false, ck_t, reduceIte, Int.tmod_eq_emod_of_nonneg, Int.tdiv_eq_ediv_of_nonneg, Tape_at_eq hG e, e1, Trip_isSight_eq]
      rfl
theorem R_wrongs_eq {M : am_M} {f p : Int} (h5 : M 73 5 ≤ 0) (h6 : am_R (M 73 5)) : R_wrongs f p M = some (am_up M 73 5 (if M 73 5 < 0 then M 73 5 else -1000 * f - p)) := by
  unfold R_wrongs R_wrongs_22
  by_cases q : M 73 5 < 0
  · simp (disch := omega) only [c_lt_p, c_eq_p, c_ne_p, c_ge_p, c_gt_p, c_le_p, rd_p, wa_p, wz_p, w8_p, fz_p, fw_p, tw_p, ck_p, ob_s, oc_s, if_pos, if_neg, am_upo, up_s, ne_eq, not_true_eq_false, not_false_eq_true, true_or, or_true, true_and, and_true, false_and, and_false, ck_t, reduceIte, Int.tmod_eq_emod_of_nonneg, Int.tdiv_eq_ediv_of_nonneg]
  · simp (disch := omega) only [c_lt_p, c_eq_p, c_ne_p, c_ge_p, c_gt_p, c_le_p, rd_p, wa_p, wz_p, w8_p, fz_p, fw_p, tw_p, ck_p, ob_s, oc_s, if_pos, if_neg, am_upo, up_s, ne_eq, not_true_eq_false, not_false_eq_true, true_or, or_true, true_and, and_true, false_and, and_false, ck_t, reduceIte, Int.tmod_eq_emod_of_nonneg, Int.tdiv_eq_ediv_of_nonneg]
theorem R_sights_fa {F : FT} {t g u : am_M} (hw : WT t) (hg : WG g) {x y : Int} (hx : 1 ≤ x ∧ x ≤ 20) (hy : 0 ≤ y ∧ y ≤ 2) : ∀ (k n : Nat) (i : Int) (M : am_M), i + k = x → 0 ≤ i → k < n → PR F g t u M → -2000 ≤ M 73 5 ∧ M 73 5 ≤ 0 → (M 73 5 = 0 → ∀ j : Nat, (j : Int) < i → siB (g 1 j)) → ∃ N, R_sights_41 n x y i M = some (if M 73 5 < 0 then M 73 5 else if cfS g k i = 0 then slS t g x y (t 0 1 - (x - 1)).toNat 0 (-2) (-2) (x - 1) else cfS g k i, N) ∧ PR F g t u N
  | 0, n + 1, i, M, h, h0, hn, hR, h5, hs => by
    have hl := hw.1
    refine ⟨M, ?_, hR⟩
    unfold R_sights_41 cfS
    by_cases q : M 73 5 < 0
    · simp (disch := omega) only [c_lt_p, c_eq_p, c_ne_p, c_ge_p, c_gt_p, c_le_p, rd_p, wa_p, wz_p, w8_p, fz_p, fw_p, tw_p, ck_p, ob_s, oc_s, if_pos, if_neg, am_upo, up_s, ne_eq, not_true_eq_false, not_false_eq_true, true_or, or_true, true_and, and_true, false_and, and_false, ck_t, reduceIte, Int.tmod_eq_emod_of_nonneg, Int.tdiv_eq_ediv_of_nonneg]
    · rw [if_neg q, if_pos rfl, ← R_sights_lp hw hg hR.2.1 hR.1 hx hy (fun j hj => hs (by omega) j (by omega)) (t 0 1 - (x - 1)).toNat am_big 0 (-2) (-2) (x - 1) rfl (by omega) (by omega) (by show _ < 1000000; omega) (Or.inl rfl)]
      simp (disch := omega) only [c_lt_p, c_eq_p, c_ne_p, c_ge_p, c_gt_p, c_le_p, rd_p, wa_p, wz_p, w8_p, fz_p, fw_p, tw_p, ck_p, ob_s, oc_s, if_pos, if_neg, am_upo, up_s, ne_eq, not_true_eq_false, not_false_eq_true, true_or, or_true, true_and, and_true, false_and, and_false, ck_t, reduceIte, Int.tmod_eq_emod_of_nonneg, Int.tdiv_eq_ediv_of_nonneg]
  | k + 1, n + 1, i, M, h, h0, hn, hR, h5, hs => by
    have b2 := hg.2.1 i.toNat (by omega)
    unfold R_sights_41 R_sights_63 cfS
    by_cases hc : siB (g 1 i.toNat)
    · obtain ⟨N, e1, e2⟩ := R_sights_fa hw hg hx hy k n (i + 1) M (by omega) (by omega) (by omega) hR h5 (fun q j hj => by
        by_cases q2 : (j : Int) = i
        · rw [show j = i.toNat by omega]
          exact hc
        · exact hs q j (by omega))
      refine ⟨N, ?_, e2⟩
      rw [if_pos hc, ← e1]
      simp (disch := omega) only [c_lt_p, c_eq_p, c_ne_p, c_ge_p, c_gt_p, c_le_p, rd_p, wa_p, wz_p, w8_p, fz_p, fw_p, tw_p, ck_p, ob_s, oc_s, if_pos, if_neg, am_upo, up_s, ne_eq, not_true_eq_false, not_false_eq_true, true_or, or_true, true_and, and_true, false_and, and_false, ck_t, reduceIte, Int.tmod_eq_emod_of_nonneg, Int.tdiv_eq_ediv_of_nonneg, R_byteAt_eq hR.1, R_isSight_eq]
    · obtain ⟨v, hv⟩ : ∃ v, (if M 73 5 < 0 then M 73 5 else -1000 * 1 - i) = v := ⟨_, rfl⟩
      have hv0 : -2000 ≤ v ∧ v < 0 := by
        rw [← hv]
        split <;> omega
      have e5 : (am_up M 73 5 v) 73 5 = v := upj
      obtain ⟨N, e1, e2⟩ := R_sights_fa hw hg hx hy k n (i + 1) (am_up M 73 5 v) (by omega) (by omega) (by omega) (hR.o (by decide)) (by rw [e5]; omega) (fun q => by rw [e5] at q; omega)
      refine ⟨N, ?_, e2⟩
      rw [e5, if_pos hv0.2] at e1
      have ew := R_wrongs_eq (f := 1) (p := i) h5.2 (by omega)
      rw [hv] at ew
      rw [if_neg hc, if_neg (show ¬ (-1000 - i = 0) by omega), show (if M 73 5 < 0 then M 73 5 else -1000 - i) = v by rw [← hv]; split <;> omega, ← e1]
      simp (disch := omega) only [c_lt_p, c_eq_p, c_ne_p, c_ge_p, c_gt_p, c_le_p, rd_p, wa_p, wz_p, w8_p, fz_p, fw_p, tw_p, ck_p, ob_s, oc_s, if_pos, if_neg, am_upo, up_s, ne_eq, not_true_eq_false, not_false_eq_true, true_or, or_true, true_and, and_true, false_and, and_false, ck_t, reduceIte, Int.tmod_eq_emod_of_nonneg, Int.tdiv_eq_ediv_of_nonneg, R_byteAt_eq hR.1, R_isSight_eq, ew]
theorem PR.bg {F : FT} {g t u M : am_M} {x : Int} (h : PR F g t u M) : ∃ M1, R_begins x M = some M1 ∧ PR F (tkS g) t u M1 ∧ M1 73 3 = 0 ∧ M1 73 4 = x ∧ M1 73 5 = 0 := by
  refine ⟨am_up (am_up (am_up (am_up M 73 1 0) 73 3 0) 73 4 x) 73 5 0, ?_, ((h.tk.o (by decide)).o (by decide)).o (by decide), ?_, ?_, ?_⟩
  · unfold R_begins
    simp (disch := omega) only [c_lt_p, c_eq_p, c_ne_p, c_ge_p, c_gt_p, c_le_p, rd_p, wa_p, wz_p, w8_p, fz_p, fw_p, tw_p, ck_p, ob_s, oc_s, if_pos, if_neg, am_upo, up_s, ne_eq, not_true_eq_false, not_false_eq_true, true_or, or_true, true_and, and_true, false_and, and_false, ck_t, reduceIte, Int.tmod_eq_emod_of_nonneg, Int.tdiv_eq_ediv_of_nonneg]
  · simp (disch := omega) only [c_lt_p, c_eq_p, c_ne_p, c_ge_p, c_gt_p, c_le_p, rd_p, wa_p, wz_p, w8_p, fz_p, fw_p, tw_p, ck_p, ob_s, oc_s, if_pos, if_neg, am_upo, up_s, ne_eq, not_true_eq_false, not_false_eq_true, true_or, or_true, true_and, and_true, false_and, and_false, ck_t, reduceIte, Int.tmod_eq_emod_of_nonneg, Int.tdiv_eq_ediv_of_nonneg]
  · simp (disch := omega) only [c_lt_p, c_eq_p, c_ne_p, c_ge_p, c_gt_p, c_le_p, rd_p, wa_p, wz_p, w8_p, fz_p, fw_p, tw_p, ck_p, ob_s, oc_s, if_pos, if_neg, am_upo, up_s, ne_eq, not_true_eq_false, not_false_eq_true, true_or, or_true, true_and, and_true, false_and, and_false, ck_t, reduceIte, Int.tmod_eq_emod_of_nonneg, Int.tdiv_eq_ediv_of_nonneg]
  · simp (disch := omega) only [c_lt_p, c_eq_p, c_ne_p, c_ge_p, c_gt_p, c_le_p, rd_p, wa_p, wz_p, w8_p, fz_p, fw_p, tw_p, ck_p, ob_s, oc_s, if_pos, if_neg, am_upo, up_s, ne_eq, not_true_eq_false, not_false_eq_true, true_or, or_true, true_and, and_true, false_and, and_false, ck_t, reduceIte, Int.tmod_eq_emod_of_nonneg, Int.tdiv_eq_ediv_of_nonneg]
def shS (t g : am_M) (x y : Int) : Int := if cfS g x.toNat 0 = 0 then slS t g x y (t 0 1 - (x - 1)).toNat 0 (-2) (-2) (x - 1) else cfS g x.toNat 0
theorem P_sights_ok {n : Nat} {x y : Int} (hx : am_R x) (hy : am_R y) : OK2 n (P_sights x y) (R_sights x y) := by
  refine OK2.of (lp := [14]) (lr := [73]) (by decide) (by decide) (fun M r h => P_sights_c x y M r h) (fun M r h => R_sights_c x y M r h) (fun F g t u hW => ?_)
  have h1 := hW.1.1
  have hl := hW.2.1.1
  by_cases hc : (0 ≤ y ∧ y ≤ 2) ∧ (1 ≤ x ∧ x ≤ 20 ∧ x ≤ g 0 0)
  · refine ⟨shS t (tkS g) x y, F, tkS g, t, u, ?_, hW.tk, fun M hC => ⟨_, ?_, (hC.tk (v := x)).cg (fun _ _ => rfl) (by omega)⟩, fun M hR => ?_⟩
    · have b1 := cfS_b (tkS g) x.toNat 0 (by omega) (by omega)
      have b2 := slS_b t (tkS g) x y (t 0 1 - (x - 1)).toNat 0 (-2) (-2) (x - 1) (by omega) (by omega) (by omega) (by omega)
      unfold shS
      split <;> omega
    · have h2 := hC.tk (v := x)
      unfold P_sights shS
      rw [c_lt_p (by omega) (by omega), if_neg (by omega), c_gt_p (by omega) (by omega), if_neg (by omega), Tape_take_eq hW.1 hC.1 hx (by decide) (by decide), if_pos hc.2, oc_s, c_ne_p (by decide) (by decide), if_pos (by decide), P_sights_fa (tkS_W hW.1) h2.1 (by omega) (by simp (disch := omega) only [c_lt_p, c_eq_p, c_ne_p, c_ge_p, c_gt_p, c_le_p, rd_p, wa_p, wz_p, w8_p, fz_p, fw_p, tw_p, ck_p, ob_s, oc_s, if_pos, if_neg, am_upo, up_s, ne_eq, not_true_eq_false, not_false_eq_true, true_or, or_true, true_and, and_true, false_and, and_false, ck_t, reduceIte, Int.tmod_eq_emod_of_nonneg, Int.tdiv_eq_ediv_of_nonneg]) x.toNat am_big 0 (by omega) (by omega) (by show _ < 1000000; omega)]
      rw [P_sights_lp hW.2.1 (tkS_W hW.1) h2.2.1 h2.1 (by omega) hc.1 (by simp (disch := omega) only [c_lt_p, c_eq_p, c_ne_p, c_ge_p, c_gt_p, c_le_p, rd_p, wa_p, wz_p, w8_p, fz_p, fw_p, tw_p, ck_p, ob_s, oc_s, if_pos, if_neg, am_upo, up_s, ne_eq, not_true_eq_false, not_false_eq_true, true_or, or_true, true_and, and_true, false_and, and_false, ck_t, reduceIte, Int.tmod_eq_emod_of_nonneg, Int.tdiv_eq_ediv_of_nonneg]) (t 0 1 - (x - 1)).toNat am_big 0 (-2) (-2) (x - 1) rfl (by omega) (by omega) (by show _ < 1000000; omega) (by omega)]
      split <;> rfl
    · obtain ⟨M1, e1, h2, h3, h4, h5⟩ := hR.bg (x := x)
      have e : M 73 1 = g 0 0 := hR.1.1.1
      obtain ⟨N, e2, e3⟩ := R_sights_fa (x := x) (y := y) hW.2.1 (tkS_W hW.1) (by omega) hc.1 x.toNat am_big 0 M1 (by omega) (by omega) (by show _ < 1000000; omega) h2 (by omega) (fun _ j hj => by omega)
      rw [h5, if_neg (by decide)] at e2
      refine ⟨N, ?_, e3⟩
      unfold R_sights
      simp (disch := omega) only [c_lt_p, c_eq_p, c_ne_p, c_ge_p, c_gt_p, c_le_p, rd_p, wa_p, wz_p, w8_p, fz_p, fw_p, tw_p, ck_p, ob_s, oc_s, if_pos, if_neg, am_upo, up_s, ne_eq, not_true_eq_false, not_false_eq_true, true_or, or_true, true_and, and_true, false_and, and_false, ck_t, reduceIte, Int.tmod_eq_emod_of_nonneg, Int.tdiv_eq_ediv_of_nonneg, R_lies_eq, e, e1]
      exact e2
  · refine ⟨-1, F, g, t, u, by decide, hW, fun M hC => ⟨M, ?_, hC.cg (fun _ _ => rfl) (by omega)⟩, fun M hR => ⟨M, ?_, hR⟩⟩
    · unfold P_sights P_sights_23
      by_cases q1 : y < 0
      · simp (disch := omega) only [c_lt_p, c_eq_p, c_ne_p, c_ge_p, c_gt_p, c_le_p, rd_p, wa_p, wz_p, w8_p, fz_p, fw_p, tw_p, ck_p, ob_s, oc_s, if_pos, if_neg, am_upo, up_s, ne_eq, not_true_eq_false, not_false_eq_true, true_or, or_true, true_and, and_true, false_and, and_false, ck_t, reduceIte, Int.tmod_eq_emod_of_nonneg, Int.tdiv_eq_ediv_of_nonneg]
      · by_cases q2 : 2 < y
        · simp (disch := omega) only [c_lt_p, c_eq_p, c_ne_p, c_ge_p, c_gt_p, c_le_p, rd_p, wa_p, wz_p, w8_p, fz_p, fw_p, tw_p, ck_p, ob_s, oc_s, if_pos, if_neg, am_upo, up_s, ne_eq, not_true_eq_false, not_false_eq_true, true_or, or_true, true_and, and_true, false_and, and_false, ck_t, reduceIte, Int.tmod_eq_emod_of_nonneg, Int.tdiv_eq_ediv_of_nonneg]
        · rw [c_lt_p (by omega) (by omega), if_neg (by omega), c_gt_p (by omega) (by omega), if_neg (by omega), Tape_take_eq hW.1 hC.1 hx (by decide) (by decide), if_neg (by omega), oc_s, c_ne_p (by decide) (by decide), if_neg (by decide)]
    · have e : M 73 1 = g 0 0 := hR.1.1.1
      unfold R_sights R_sights_32
      by_cases q : 1 ≤ x ∧ x ≤ 20
      · by_cases q1 : 0 ≤ y ∧ y ≤ 2
        · simp (disch := omega) only [c_lt_p, c_eq_p, c_ne_p, c_ge_p, c_gt_p, c_le_p, rd_p, wa_p, wz_p, w8_p, fz_p, fw_p, tw_p, ck_p, ob_s, oc_s, if_pos, if_neg, am_upo, up_s, ne_eq, not_true_eq_false, not_false_eq_true, true_or, or_true, true_and, and_true, false_and, and_false, ck_t, reduceIte, Int.tmod_eq_emod_of_nonneg, Int.tdiv_eq_ediv_of_nonneg, R_lies_eq, e]
        · simp (disch := omega) only [c_lt_p, c_eq_p, c_ne_p, c_ge_p, c_gt_p, c_le_p, rd_p, wa_p, wz_p, w8_p, fz_p, fw_p, tw_p, ck_p, ob_s, oc_s, if_pos, if_neg, am_upo, up_s, ne_eq, not_true_eq_false, not_false_eq_true, true_or, or_true, true_and, and_true, false_and, and_false, ck_t, reduceIte, Int.tmod_eq_emod_of_nonneg, Int.tdiv_eq_ediv_of_nonneg, R_lies_eq, e]
      · simp (disch := omega) only [c_lt_p, c_eq_p, c_ne_p, c_ge_p, c_gt_p, c_le_p, rd_p, wa_p, wz_p, w8_p, fz_p, fw_p, tw_p, ck_p, ob_s, oc_s, if_pos, if_neg, am_upo, up_s, ne_eq, not_true_eq_false, not_false_eq_true, true_or, or_true, true_and, and_true, false_and, and_false, ck_t, reduceIte, Int.tmod_eq_emod_of_nonneg, Int.tdiv_eq_ediv_of_nonneg, R_lies_eq, e]
