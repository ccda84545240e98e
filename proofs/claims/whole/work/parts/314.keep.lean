theorem cpy_p {α : Type} {M : am_M} {s n0 d n1 : Nat} {sp dp n : Int} {f : am_M → Option α} (h : 0 ≤ n ∧ 0 ≤ dp ∧ 0 ≤ sp ∧ sp + n ≤ (n0 : Int) ∧ dp + n ≤ (n1 : Int)) : cpy M s n0 d n1 sp dp n f = f (am_cp M s sp.toNat d dp.toNat n.toNat) := if_pos h
theorem cp_o {M : am_M} {s sp d dp n k : Nat} (h : k ≠ d) : am_cp M s sp d dp n k = M k := by
  funext x
  unfold am_cp
  rw [if_neg h]
theorem cp_s {M : am_M} {s d n j : Nat} : am_cp M s 0 d 0 n d j = if j < n then M s j else M d j := by
  unfold am_cp
  rw [if_pos rfl]
  by_cases h : j < n
  · rw [if_pos ⟨by omega, by omega⟩, if_pos h, Nat.zero_add, Nat.sub_zero]
  · rw [if_neg (by omega), if_neg h]
theorem Trip_copyFrom_42_26_eq {t M : am_M} (hw : WT t) (h : TP 26 t M) : ∃ M1, Trip_copyFrom_42_26 M = some M1 ∧ TP 42 t M1 := by
  have hl := hw.1
  refine ⟨am_up (am_up (am_up (am_up (am_up (am_up (am_cp (am_cp (am_cp (am_cp (am_cp (am_cp (am_cp M 27 0 43 0 6) 28 0 44 0 100) 29 0 45 0 100) 30 0 46 0 100) 31 0 47 0 100) 32 0 48 0 100) 33 0 49 0 144) 42 9 (M 26 9)) 42 10 (M 26 10)) 42 11 (M 26 11)) 42 12 (M 26 12)) 42 13 (M 26 13)) 42 14 (M 26 14), ?_, ?_⟩
  · unfold Trip_copyFrom_42_26
    simp (disch := omega) only [c_lt_p, c_eq_p, c_ne_p, c_ge_p, c_gt_p, c_le_p, rd_p, wa_p, wz_p, w8_p, fz_p, fw_p, tw_p, ck_p, ob_s, oc_s, if_pos, if_neg, am_upo, up_s, ne_eq, not_true_eq_false, not_false_eq_true, true_or, or_true, true_and, and_true, false_and, and_false, ck_t, reduceIte, Int.tmod_eq_emod_of_nonneg, Int.tdiv_eq_ediv_of_nonneg, cpy_p, cp_o]
    rfl
  · refine ⟨?_, fun p hp => ?_, fun p hp => ?_, fun c hc => ?_⟩
    · simp (disch := omega) only [c_lt_p, c_eq_p, c_ne_p, c_ge_p, c_gt_p, c_le_p, rd_p, wa_p, wz_p, w8_p, fz_p, fw_p, tw_p, ck_p, ob_s, oc_s, if_pos, if_neg, am_upo, up_s, ne_eq, not_true_eq_false, not_false_eq_true, true_or, or_true, true_and, and_true, false_and, and_false, ck_t, reduceIte, Int.tmod_eq_emod_of_nonneg, Int.tdiv_eq_ediv_of_nonneg]
      exact h.1
    · have h1 := h.2.1 p hp
      simp (disch := omega) only [c_lt_p, c_eq_p, c_ne_p, c_ge_p, c_gt_p, c_le_p, rd_p, wa_p, wz_p, w8_p, fz_p, fw_p, tw_p, ck_p, ob_s, oc_s, if_pos, if_neg, am_upo, up_s, ne_eq, not_true_eq_false, not_false_eq_true, true_or, or_true, true_and, and_true, false_and, and_false, ck_t, reduceIte, Int.tmod_eq_emod_of_nonneg, Int.tdiv_eq_ediv_of_nonneg, cp_o, cp_s]
      exact h1
    · have h1 := h.2.2.1 p hp
      simp (disch := omega) only [c_lt_p, c_eq_p, c_ne_p, c_ge_p, c_gt_p, c_le_p, rd_p, wa_p, wz_p, w8_p, fz_p, fw_p, tw_p, ck_p, ob_s, oc_s, if_pos, if_neg, am_upo, up_s, ne_eq, not_true_eq_false, not_false_eq_true, true_or, or_true, true_and, and_true, false_and, and_false, ck_t, reduceIte, Int.tmod_eq_emod_of_nonneg, Int.tdiv_eq_ediv_of_nonneg, cp_o, cp_s]
      exact h1
    · have h1 := h.2.2.2 c hc
      simp (disch := omega) only [c_lt_p, c_eq_p, c_ne_p, c_ge_p, c_gt_p, c_le_p, rd_p, wa_p, wz_p, w8_p, fz_p, fw_p, tw_p, ck_p, ob_s, oc_s, if_pos, if_neg, am_upo, up_s, ne_eq, not_true_eq_false, not_false_eq_true, true_or, or_true, true_and, and_true, false_and, and_false, ck_t, reduceIte, Int.tmod_eq_emod_of_nonneg, Int.tdiv_eq_ediv_of_nonneg, cp_o, cp_s]
      exact h1
theorem Trip_copyFrom_26_42_eq {t M : am_M} (hw : WT t) (h : TP 42 t M) : ∃ M1, Trip_copyFrom_26_42 M = some M1 ∧ TP 26 t M1 := by
  have hl := hw.1
  refine ⟨am_up (am_up (am_up (am_up (am_up (am_up (am_cp (am_cp (am_cp (am_cp (am_cp (am_cp (am_cp M 43 0 27 0 6) 44 0 28 0 100) 45 0 29 0 100) 46 0 30 0 100) 47 0 31 0 100) 48 0 32 0 100) 49 0 33 0 144) 26 9 (M 42 9)) 26 10 (M 42 10)) 26 11 (M 42 11)) 26 12 (M 42 12)) 26 13 (M 42 13)) 26 14 (M 42 14), ?_, ?_⟩
  · unfold Trip_copyFrom_26_42
    simp (disch := omega) only [c_lt_p, c_eq_p, c_ne_p, c_ge_p, c_gt_p, c_le_p, rd_p, wa_p, wz_p, w8_p, fz_p, fw_p, tw_p, ck_p, ob_s, oc_s, if_pos, if_neg, am_upo, up_s, ne_eq, not_true_eq_false, not_false_eq_true, true_or, or_true, true_and, and_true, false_and, and_false, ck_t, reduceIte, Int.tmod_eq_emod_of_nonneg, Int.tdiv_eq_ediv_of_nonneg, cpy_p, cp_o]
    rfl
  · refine ⟨?_, fun p hp => ?_, fun p hp => ?_, fun c hc => ?_⟩
    · simp (disch := omega) only [c_lt_p, c_eq_p, c_ne_p, c_ge_p, c_gt_p, c_le_p, rd_p, wa_p, wz_p, w8_p, fz_p, fw_p, tw_p, ck_p, ob_s, oc_s, if_pos, if_neg, am_upo, up_s, ne_eq, not_true_eq_false, not_false_eq_true, true_or, or_true, true_and, and_true, false_and, and_false, ck_t, reduceIte, Int.tmod_eq_emod_of_nonneg, Int.tdiv_eq_ediv_of_nonneg]
      exact h.1
    · have h1 := h.2.1 p hp
      simp (disch := omega) only [c_lt_p, c_eq_p, c_ne_p, c_ge_p, c_gt_p, c_le_p, rd_p, wa_p, wz_p, w8_p, fz_p, fw_p, tw_p, ck_p, ob_s, oc_s, if_pos, if_neg, am_upo, up_s, ne_eq, not_true_eq_false, not_false_eq_true, true_or, or_true, true_and, and_true, false_and, and_false, ck_t, reduceIte, Int.tmod_eq_emod_of_nonneg, Int.tdiv_eq_ediv_of_nonneg, cp_o, cp_s]
      exact h1
    · have h1 := h.2.2.1 p hp
      simp (disch := omega) only [c_lt_p, c_eq_p, c_ne_p, c_ge_p, c_gt_p, c_le_p, rd_p, wa_p, wz_p, w8_p, fz_p, fw_p, tw_p, ck_p, ob_s, oc_s, if_pos, if_neg, am_upo, up_s, ne_eq, not_true_eq_false, not_false_eq_true, true_or, or_true, true_and, and_true, false_and, and_false, ck_t, reduceIte, Int.tmod_eq_emod_of_nonneg, Int.tdiv_eq_ediv_of_nonneg, cp_o, cp_s]
      exact h1
    · have h1 := h.2.2.2 c hc
      simp (disch := omega) only [c_lt_p, c_eq_p, c_ne_p, c_ge_p, c_gt_p, c_le_p, rd_p, wa_p, wz_p, w8_p, fz_p, fw_p, tw_p, ck_p, ob_s, oc_s, if_pos, if_neg, am_upo, up_s, ne_eq, not_true_eq_false, not_false_eq_true, true_or, or_true, true_and, and_true, false_and, and_false, ck_t, reduceIte, Int.tmod_eq_emod_of_nonneg, Int.tdiv_eq_ediv_of_nonneg, cp_o, cp_s]
      exact h1
theorem Trip_copyFrom_34_26_eq {t M : am_M} (hw : WT t) (h : TP 26 t M) : ∃ M1, Trip_copyFrom_34_26 M = some M1 ∧ TP 34 t M1 := by
  have hl := hw.1
  refine ⟨am_up (am_up (am_up (am_up (am_up (am_up (am_cp (am_cp (am_cp (am_cp (am_cp (am_cp (am_cp M 27 0 35 0 6) 28 0 36 0 100) 29 0 37 0 100) 30 0 38 0 100) 31 0 39 0 100) 32 0 40 0 100) 33 0 41 0 144) 34 9 (M 26 9)) 34 10 (M 26 10)) 34 11 (M 26 11)) 34 12 (M 26 12)) 34 13 (M 26 13)) 34 14 (M 26 14), ?_, ?_⟩
  · unfold Trip_copyFrom_34_26
    simp (disch := omega) only [c_lt_p, c_eq_p, c_ne_p, c_ge_p, c_gt_p, c_le_p, rd_p, wa_p, wz_p, w8_p, fz_p, fw_p, tw_p, ck_p, ob_s, oc_s, if_pos, if_neg, am_upo, up_s, ne_eq, not_true_eq_false, not_false_eq_true, true_or, or_true, true_and, and_true, false_and, and_false, ck_t, reduceIte, Int.tmod_eq_emod_of_nonneg, Int.tdiv_eq_ediv_of_nonneg, cpy_p, cp_o]
    rfl
  · refine ⟨?_, fun p hp => ?_, fun p hp => ?_, fun c hc => ?_⟩
    · simp (disch := omega) only [c_lt_p, c_eq_p, c_ne_p, c_ge_p, c_gt_p, c_le_p, rd_p, wa_p, wz_p, w8_p, fz_p, fw_p, tw_p, ck_p, ob_s, oc_s, if_pos, if_neg, am_upo, up_s, ne_eq, not_true_eq_false, not_false_eq_true, true_or, or_true, true_and, and_true, false_and, and_false, ck_t, reduceIte, Int.tmod_eq_emod_of_nonneg, Int.tdiv_eq_ediv_of_nonneg]
      exact h.1
    · have h1 := h.2.1 p hp
      simp (disch := omega) only [c_lt_p, c_eq_p, c_ne_p, c_ge_p, c_gt_p, c_le_p, rd_p, wa_p, wz_p, w8_p, fz_p, fw_p, tw_p, ck_p, ob_s, oc_s, if_pos, if_neg, am_upo, up_s, ne_eq, not_true_eq_false, not_false_eq_true, true_or, or_true, true_and, and_true, false_and, and_false, ck_t, reduceIte, Int.tmod_eq_emod_of_nonneg, Int.tdiv_eq_ediv_of_nonneg, cp_o, cp_s]
      exact h1
    · have h1 := h.2.2.1 p hp
      simp (disch := omega) only [c_lt_p, c_eq_p, c_ne_p, c_ge_p, c_gt_p, c_le_p, rd_p, wa_p, wz_p, w8_p, fz_p, fw_p, tw_p, ck_p, ob_s, oc_s, if_pos, if_neg, am_upo, up_s, ne_eq, not_true_eq_false, not_false_eq_true, true_or, or_true, true_and, and_true, false_and, and_false, ck_t, reduceIte, Int.tmod_eq_emod_of_nonneg, Int.tdiv_eq_ediv_of_nonneg, cp_o, cp_s]
      exact h1
    · have h1 := h.2.2.2 c hc
      simp (disch := omega) only [c_lt_p, c_eq_p, c_ne_p, c_ge_p, c_gt_p, c_le_p, rd_p, wa_p, wz_p, w8_p, fz_p, fw_p, tw_p, ck_p, ob_s, oc_s, if_pos, if_neg, am_upo, up_s, ne_eq, not_true_eq_false, not_false_eq_true, true_or, or_true, true_and, and_true, false_and, and_false, ck_t, reduceIte, Int.tmod_eq_emod_of_nonneg, Int.tdiv_eq_ediv_of_nonneg, cp_o, cp_s]
      exact h1
/-- what is laid aside, the r-th -/
def AS (r : Nat) (u M : am_M) : Prop := (M 109 r = u 0 0 ∧ M 107 r = u 0 1 ∧ M 108 r = u 0 2 ∧ M 110 r = u 0 3 ∧ M 111 r = u 0 4 ∧ M 112 r = u 0 5) ∧ (∀ p : Nat, (p : Int) < u 0 1 → M 102 (100 * r + p) = u 2 p ∧ M 103 (100 * r + p) = u 3 p ∧ M 104 (100 * r + p) = u 4 p ∧ M 105 (100 * r + p) = u 5 p ∧ M 106 (100 * r + p) = u 6 p) ∧ (∀ p : Nat, p < 6 → M 101 (6 * r + p) = u 1 p)
/-- what lies in the other place stays -/
def AF (r : Nat) (M N : am_M) : Prop := (∀ k, (k < 101 ∨ 112 < k) → N k = M k) ∧ (∀ k j, 102 ≤ k → k ≤ 106 → (j < 100 * r ∨ 100 * r + 100 ≤ j) → N k j = M k j) ∧ (∀ j, (j < 6 * r ∨ 6 * r + 6 ≤ j) → N 101 j = M 101 j) ∧ (∀ k j, 107 ≤ k → k ≤ 112 → j ≠ r → N k j = M k j)
theorem AF.rf {r : Nat} {M : am_M} : AF r M M := ⟨fun _ _ => rfl, fun _ _ _ _ _ => rfl, fun _ _ => rfl, fun _ _ _ _ _ => rfl⟩
theorem AF.tr {r : Nat} {M N O : am_M} (a : AF r M N) (b : AF r N O) : AF r M O := ⟨fun k h => (b.1 k h).trans (a.1 k h), fun k j h1 h2 h3 => (b.2.1 k j h1 h2 h3).trans (a.2.1 k j h1 h2 h3), fun j h => (b.2.2.1 j h).trans (a.2.2.1 j h), fun k j h1 h2 h3 => (b.2.2.2 k j h1 h2 h3).trans (a.2.2.2 k j h1 h2 h3)⟩
theorem AF.up {r k0 j0 : Nat} {v : Int} {M N : am_M} (a : AF r M N) (h : (102 ≤ k0 ∧ k0 ≤ 106 ∧ 100 * r ≤ j0 ∧ j0 < 100 * r + 100) ∨ (k0 = 101 ∧ 6 * r ≤ j0 ∧ j0 < 6 * r + 6) ∨ (107 ≤ k0 ∧ k0 ≤ 112 ∧ j0 = r)) : AF r M (am_up N k0 j0 v) := by
  refine ⟨fun k hk => ?_, fun k j h1 h2 h3 => ?_, fun j h1 => ?_, fun k j h1 h2 h3 => ?_⟩
  · rw [upo (by omega)]; exact a.1 k hk
  · by_cases q : k = k0
    · subst q; rw [upx (by omega)]; exact a.2.1 k j h1 h2 h3
    · rw [upo q]; exact a.2.1 k j h1 h2 h3
  · by_cases q : 101 = k0
    · subst q; rw [upx (by omega)]; exact a.2.2.1 j h1
    · rw [upo q]; exact a.2.2.1 j h1
  · by_cases q : k = k0
    · subst q; rw [upx (by omega)]; exact a.2.2.2 k j h1 h2 h3
    · rw [upo q]; exact a.2.2.2 k j h1 h2 h3
theorem lays2 {r : Nat} (hr : r < 2) {t : am_M} (hw : WT t) : ∀ (k n i : Nat) (M : am_M), (i : Int) + k = t 0 1 → k < n → TR t M → (∀ p : Nat, p < i → M 102 (100 * r + p) = t 2 p ∧ M 103 (100 * r + p) = t 3 p ∧ M 104 (100 * r + p) = t 4 p ∧ M 105 (100 * r + p) = t 5 p ∧ M 106 (100 * r + p) = t 6 p) → (∀ p : Nat, p < 6 → M 101 (6 * r + p) = t 1 p) → ∃ M1, R_laysAside_33 n (r : Int) (i : Int) M = some M1 ∧ AS r t M1 ∧ AF r M M1
  | 0, n + 1, i, M, e, hn, hT, h1, h2 => by
    have hl := hw.1
    obtain ⟨q1, q2, q3, q4, q5, q6⟩ := hT.1
    refine ⟨am_up (am_up (am_up (am_up (am_up (am_up M 107 r (t 0 1)) 108 r (t 0 2)) 109 r (t 0 0)) 110 r (t 0 3)) 111 r (t 0 4)) 112 r (t 0 5), ?_, ⟨?_, fun p hp => ?_, fun p hp => ?_⟩, ?_⟩
    · unfold R_laysAside_33
      simp (disch := omega) only [c_lt_p, c_eq_p, c_ne_p, c_ge_p, c_gt_p, c_le_p, rd_p, wa_p, wz_p, w8_p, fz_p, fw_p, tw_p, ck_p, ob_s, oc_s, if_pos, if_neg, am_upo, up_s, ne_eq, not_true_eq_false, not_false_eq_true, true_or, or_true, true_and, and_true, false_and, and_false, ck_t, reduceIte, Int.tmod_eq_emod_of_nonneg, Int.tdiv_eq_ediv_of_nonneg, q1, q2, q3, q4, q5, q6, Int.toNat_natCast]
    · simp (disch := omega) only [c_lt_p, c_eq_p, c_ne_p, c_ge_p, c_gt_p, c_le_p, rd_p, wa_p, wz_p, w8_p, fz_p, fw_p, tw_p, ck_p, ob_s, oc_s, if_pos, if_neg, am_upo, up_s, ne_eq, not_true_eq_false, not_false_eq_true, true_or, or_true, true_and, and_true, false_and, and_false, ck_t, reduceIte, Int.tmod_eq_emod_of_nonneg, Int.tdiv_eq_ediv_of_nonneg]
    · simp (disch := omega) only [c_lt_p, c_eq_p, c_ne_p, c_ge_p, c_gt_p, c_le_p, rd_p, wa_p, wz_p, w8_p, fz_p, fw_p, tw_p, ck_p, ob_s, oc_s, if_pos, if_neg, am_upo, up_s, ne_eq, not_true_eq_false, not_false_eq_true, true_or, or_true, true_and, and_true, false_and, and_false, ck_t, reduceIte, Int.tmod_eq_emod_of_nonneg, Int.tdiv_eq_ediv_of_nonneg]
      exact h1 p (by omega)
    · simp (disch := omega) only [c_lt_p, c_eq_p, c_ne_p, c_ge_p, c_gt_p, c_le_p, rd_p, wa_p, wz_p, w8_p, fz_p, fw_p, tw_p, ck_p, ob_s, oc_s, if_pos, if_neg, am_upo, up_s, ne_eq, not_true_eq_false, not_false_eq_true, true_or, or_true, true_and, and_true, false_and, and_false, ck_t, reduceIte, Int.tmod_eq_emod_of_nonneg, Int.tdiv_eq_ediv_of_nonneg]
      exact h2 p hp
    · exact (((((AF.rf.up (by omega)).up (by omega)).up (by omega)).up (by omega)).up (by omega)).up (by omega)
  | k + 1, n + 1, i, M, e, hn, hT, h1, h2 => by
    have hl := hw.1
    obtain ⟨q1, q2, q3, q4, q5, q6⟩ := hT.1
    obtain ⟨c1, c2, c3, c4, c5⟩ := hT.2.1 i (by omega)
    have ha := hw.2.1 i (by omega)
    obtain ⟨M1, e1, e2, e3⟩ := lays2 hr hw k n (i + 1) (am_up (am_up (am_up (am_up (am_up M 102 (100 * r + i) (t 2 i)) 103 (100 * r + i) (t 3 i)) 104 (100 * r + i) (t 4 i)) 105 (100 * r + i) (t 5 i)) 106 (100 * r + i) (t 6 i)) (by omega) (by omega) (hT.cg' (fun k a b => by simp (disch := omega) only [c_lt_p, c_eq_p, c_ne_p, c_ge_p, c_gt_p, c_le_p, rd_p, wa_p, wz_p, w8_p, fz_p, fw_p, tw_p, ck_p, ob_s, oc_s, if_pos, if_neg, am_upo, up_s, ne_eq, not_true_eq_false, not_false_eq_true, true_or, or_true, true_and, and_true, false_and, and_false, ck_t, reduceIte, Int.tmod_eq_emod_of_nonneg, Int.tdiv_eq_ediv_of_nonneg])) (fun p hp => by
      by_cases q : p = i
      · subst q
        simp (disch := omega) only [c_lt_p, c_eq_p, c_ne_p, c_ge_p, c_gt_p, c_le_p, rd_p, wa_p, wz_p, w8_p, fz_p, fw_p, tw_p, ck_p, ob_s, oc_s, if_pos, if_neg, am_upo, up_s, ne_eq, not_true_eq_false, not_false_eq_true, true_or, or_true, true_and, and_true, false_and, and_false, ck_t, reduceIte, Int.tmod_eq_emod_of_nonneg, Int.tdiv_eq_ediv_of_nonneg]
      · simp (disch := omega) only [c_lt_p, c_eq_p, c_ne_p, c_ge_p, c_gt_p, c_le_p, rd_p, wa_p, wz_p, w8_p, fz_p, fw_p, tw_p, ck_p, ob_s, oc_s, if_pos, if_neg, am_upo, up_s, ne_eq, not_true_eq_false, not_false_eq_true, true_or, or_true, true_and, and_true, false_and, and_false, ck_t, reduceIte, Int.tmod_eq_emod_of_nonneg, Int.tdiv_eq_ediv_of_nonneg]
        exact h1 p (by omega)) (fun p hp => by simp (disch := omega) only [c_lt_p, c_eq_p, c_ne_p, c_ge_p, c_gt_p, c_le_p, rd_p, wa_p, wz_p, w8_p, fz_p, fw_p, tw_p, ck_p, ob_s, oc_s, if_pos, if_neg, am_upo, up_s, ne_eq, not_true_eq_false, not_false_eq_true, true_or, or_true, true_and, and_true, false_and, and_false, ck_t, reduceIte, Int.tmod_eq_emod_of_nonneg, Int.tdiv_eq_ediv_of_nonneg]; exact h2 p hp)
    refine ⟨M1, ?_, e2, AF.tr (((((AF.rf.up (by omega)).up (by omega)).up (by omega)).up (by omega)).up (by omega)) e3⟩
    have f1 : ((100 : Int) * (r : Int) + (i : Int)).toNat = 100 * r + i := by omega
    have f2 : ((i : Int)).toNat = i := by omega
    unfold R_laysAside_33
    simp (disch := omega) only [c_lt_p, c_eq_p, c_ne_p, c_ge_p, c_gt_p, c_le_p, rd_p, wa_p, wz_p, w8_p, fz_p, fw_p, tw_p, ck_p, ob_s, oc_s, if_pos, if_neg, am_upo, up_s, ne_eq, not_true_eq_false, not_false_eq_true, true_or, or_true, true_and, and_true, false_and, and_false, ck_t, reduceIte, Int.tmod_eq_emod_of_nonneg, Int.tdiv_eq_ediv_of_nonneg, q2, f1, f2, c1, c2, c3, c4, c5]
    exact e1
theorem lays1 {r : Nat} (hr : r < 2) {t : am_M} (hw : WT t) : ∀ (k n i : Nat) (M : am_M), i + k = 6 → k < n → TR t M → (∀ p : Nat, p < i → M 101 (6 * r + p) = t 1 p) → ∃ M1, R_laysAside_2 n (r : Int) (i : Int) M = some M1 ∧ AS r t M1 ∧ AF r M M1
  | 0, n + 1, i, M, e, hn, hT, h1 => by
    have hl := hw.1
    obtain ⟨M1, e1, e2, e3⟩ := lays2 hr hw (t 0 1).toNat am_big 0 M (by omega) (by show _ < 1000000; omega) hT (fun p hp => by omega) (fun p hp => h1 p (by omega))
    refine ⟨M1, ?_, e2, e3⟩
    unfold R_laysAside_2
    simp (disch := omega) only [c_lt_p, c_eq_p, c_ne_p, c_ge_p, c_gt_p, c_le_p, rd_p, wa_p, wz_p, w8_p, fz_p, fw_p, tw_p, ck_p, ob_s, oc_s, if_pos, if_neg, am_upo, up_s, ne_eq, not_true_eq_false, not_false_eq_true, true_or, or_true, true_and, and_true, false_and, and_false, ck_t, reduceIte, Int.tmod_eq_emod_of_nonneg, Int.tdiv_eq_ediv_of_nonneg]
    exact e1
  | k + 1, n + 1, i, M, e, hn, hT, h1 => by
    have c1 := hT.2.2.1 i (by omega)
    obtain ⟨M1, e1, e2, e3⟩ := lays1 hr hw k n (i + 1) (am_up M 101 (6 * r + i) (t 1 i)) (by omega) (by omega) (hT.cg' (fun k a b => by simp (disch := omega) only [c_lt_p, c_eq_p, c_ne_p, c_ge_p, c_gt_p, c_le_p, rd_p, wa_p, wz_p, w8_p, fz_p, fw_p, tw_p, ck_p, ob_s, oc_s, if_pos, if_neg, am_upo, up_s, ne_eq, not_true_eq_false, not_false_eq_true, true_or, or_true, true_and, and_true, false_and, and_false, ck_t, reduceIte, Int.tmod_eq_emod_of_nonneg, Int.tdiv_eq_ediv_of_nonneg])) (fun p hp => by
      by_cases q : p = i
      · subst q
        simp (disch := omega) only [c_lt_p, c_eq_p, c_ne_p, c_ge_p, c_gt_p, c_le_p, rd_p, wa_p, wz_p, w8_p, fz_p, fw_p, tw_p, ck_p, ob_s, oc_s, if_pos, if_neg, am_upo, up_s, ne_eq, not_true_eq_false, not_false_eq_true, true_or, or_true, true_and, and_true, false_and, and_false, ck_t, reduceIte, Int.tmod_eq_emod_of_nonneg, Int.tdiv_eq_ediv_of_nonneg]
      · simp (disch := omega) only [c_lt_p, c_eq_p, c_ne_p, c_ge_p, c_gt_p, c_le_p, rd_p, wa_p, wz_p, w8_p, fz_p, fw_p, tw_p, ck_p, ob_s, oc_s, if_pos, if_neg, am_upo, up_s, ne_eq, not_true_eq_false, not_false_eq_true, true_or, or_true, true_and, and_true, false_and, and_false, ck_t, reduceIte, Int.tmod_eq_emod_of_nonneg, Int.tdiv_eq_ediv_of_nonneg]
        exact h1 p (by omega))
    refine ⟨M1, ?_, e2, AF.tr (AF.rf.up (by omega)) e3⟩
    have f1 : ((6 : Int) * (r : Int) + (i : Int)).toNat = 6 * r + i := by omega
    have f2 : ((i : Int)).toNat = i := by omega
    unfold R_laysAside_2
    simp (disch := omega) only [c_lt_p, c_eq_p, c_ne_p, c_ge_p, c_gt_p, c_le_p, rd_p, wa_p, wz_p, w8_p, fz_p, fw_p, tw_p, ck_p, ob_s, oc_s, if_pos, if_neg, am_upo, up_s, ne_eq, not_true_eq_false, not_false_eq_true, true_or, or_true, true_and, and_true, false_and, and_false, ck_t, reduceIte, Int.tmod_eq_emod_of_nonneg, Int.tdiv_eq_ediv_of_nonneg, f1, f2, c1]
    exact e1
theorem R_laysAside_eq {r : Nat} (hr : r < 2) {t M : am_M} (hw : WT t) (hT : TR t M) : ∃ M1, R_laysAside (r : Int) M = some M1 ∧ AS r t M1 ∧ AF r M M1 := lays1 hr hw 6 am_big 0 M (by omega) (by decide) hT (fun p hp => by omega)
