-- both constructors: nothing told, nothing kept
def ZB (k : Nat) (M : am_M) : Prop := ∀ i, k ≤ i → M i = fun _ => 0
theorem ZB.nw {α : Type} {k i : Nat} {M : am_M} {f : am_M → Option α} (h : ZB k M) (hi : k ≤ i) : nw M i f = f M := by
  have e : am_zr M i = M := by
    funext a
    by_cases q : a = i
    · subst q
      rw [h a hi]
      funext b
      unfold am_zr
      rw [if_pos rfl]
    · exact am_zro q
  show f (am_zr M i) = f M
  rw [e]
theorem ZB.up {k c j : Nat} {v : Int} {M : am_M} (h : ZB k M) (hc : c < k) : ZB k (am_up M c j v) := fun i hi => by
  rw [upo (by omega)]
  exact h i hi
theorem ZB.mo {k k' : Nat} {M : am_M} (h : ZB k M) (hk : k ≤ k') : ZB k' M := fun i hi => h i (by omega)
theorem ZB.ch {k : Nat} {l : List Nat} {M N : am_M} (h : ZB k M) (e : Ch l M N) (hl : ∀ i, i ∈ l → i < k) : ZB k N := fun i hi => by
  rw [e i (fun q => by have := hl i q; omega)]
  exact h i hi
theorem up_id {M : am_M} {k j : Nat} {v : Int} (h : M k j = v) : am_up M k j v = M := by
  funext a b
  by_cases q : a = k
  · subst q
    rw [up_s]
    by_cases q2 : b = j
    · rw [if_pos q2, q2, h]
    · rw [if_neg q2]
  · rw [upo q]
theorem nfil2 : ∀ (k n : Nat) (i : Int) (M : am_M), i + k = 144 → 0 ≤ i → k < n → ∃ M1, J_fill_2_n5_5 n 2 i 144 M = some M1 ∧ Ch [2] M M1 ∧ ∀ j : Nat, j < 144 → M1 2 j = if (j : Int) < i then M 2 j else 2
  | 0, n + 1, i, M, e, h0, hn => by
    refine ⟨M, ?_, Ch.rf, fun j hj => by rw [if_pos (by omega)]⟩
    unfold J_fill_2_n5_5
    simp (disch := omega) only [c_lt_p, c_eq_p, c_ne_p, c_ge_p, c_gt_p, c_le_p, rd_p, wa_p, wz_p, w8_p, fz_p, fw_p, tw_p, ck_p, ob_s, oc_s, if_pos, if_neg, am_upo, up_s, ne_eq, not_true_eq_false, not_false_eq_true, true_or, or_true, true_and, and_true, false_and, and_false, ck_t, reduceIte, Int.tmod_eq_emod_of_nonneg, Int.tdiv_eq_ediv_of_nonneg]
  | k + 1, n + 1, i, M, e, h0, hn => by
    obtain ⟨M1, h1, h2, h3⟩ := nfil2 k n (i + 1) (am_up M 2 i.toNat 2) (by omega) (by omega) (by omega)
    refine ⟨M1, ?_, (Ch.rf.up (by decide) rfl).tr h2 (fun _ h => h), fun j hj => ?_⟩
    · unfold J_fill_2_n5_5
      simp (disch := omega) only [c_lt_p, c_eq_p, c_ne_p, c_ge_p, c_gt_p, c_le_p, rd_p, wa_p, wz_p, w8_p, fz_p, fw_p, tw_p, ck_p, ob_s, oc_s, if_pos, if_neg, am_upo, up_s, ne_eq, not_true_eq_false, not_false_eq_true, true_or, or_true, true_and, and_true, false_and, and_false, ck_t, reduceIte, Int.tmod_eq_emod_of_nonneg, Int.tdiv_eq_ediv_of_nonneg]
      exact h1
    · rw [h3 j hj]
      simp only [up_s]
      by_cases hji : (j : Int) < i
      · rw [if_pos (by omega), if_neg (by omega), if_pos hji]
      · rw [if_neg hji]
        by_cases hj2 : (j : Int) < i + 1
        · rw [if_pos hj2, if_pos (by omega)]
        · rw [if_neg hj2]
theorem nfill_26 : ∀ (k n : Nat) (i : Int) (M : am_M), i + k = 144 → 0 ≤ i → k < n → ∃ M1, J_fill_33_n34_5 n 0 i 144 M = some M1 ∧ Ch [33] M M1 ∧ ∀ j : Nat, j < 144 → M1 33 j = if (j : Int) < i then M 33 j else 0
  | 0, n + 1, i, M, e, h0, hn => by
    refine ⟨M, ?_, Ch.rf, fun j hj => by rw [if_pos (by omega)]⟩
    unfold J_fill_33_n34_5
    simp (disch := omega) only [c_lt_p, c_eq_p, c_ne_p, c_ge_p, c_gt_p, c_le_p, rd_p, wa_p, wz_p, w8_p, fz_p, fw_p, tw_p, ck_p, ob_s, oc_s, if_pos, if_neg, am_upo, up_s, ne_eq, not_true_eq_false, not_false_eq_true, true_or, or_true, true_and, and_true, false_and, and_false, ck_t, reduceIte, Int.tmod_eq_emod_of_nonneg, Int.tdiv_eq_ediv_of_nonneg]
  | k + 1, n + 1, i, M, e, h0, hn => by
    obtain ⟨M1, h1, h2, h3⟩ := nfill_26 k n (i + 1) (am_up M 33 i.toNat 0) (by omega) (by omega) (by omega)
    refine ⟨M1, ?_, (Ch.rf.up (by decide) rfl).tr h2 (fun _ h => h), fun j hj => ?_⟩
    · unfold J_fill_33_n34_5
      simp (disch := omega) only [c_lt_p, c_eq_p, c_ne_p, c_ge_p, c_gt_p, c_le_p, rd_p, wa_p, wz_p, w8_p, fz_p, fw_p, tw_p, ck_p, ob_s, oc_s, if_pos, if_neg, am_upo, up_s, ne_eq, not_true_eq_false, not_false_eq_true, true_or, or_true, true_and, and_true, false_and, and_false, ck_t, reduceIte, Int.tmod_eq_emod_of_nonneg, Int.tdiv_eq_ediv_of_nonneg]
      exact h1
    · rw [h3 j hj]
      simp only [up_s]
      by_cases hji : (j : Int) < i
      · rw [if_pos (by omega), if_neg (by omega), if_pos hji]
      · rw [if_neg hji]
        by_cases hj2 : (j : Int) < i + 1
        · rw [if_pos hj2, if_pos (by omega)]
        · rw [if_neg hj2]
theorem nbeg_26 {M : am_M} : ∃ M1, Trip_beginAt_26_n34 0 M = some M1 ∧ Ch [26, 28, 29, 30, 31, 32, 33] M M1 ∧ (M1 26 10 = 1 ∧ M1 26 11 = 0 ∧ ∀ j, j ≠ 10 → j ≠ 11 → M1 26 j = M 26 j) ∧ (M1 28 0 = 0 ∧ M1 29 0 = M 1 3 ∧ M1 30 0 = 0 ∧ M1 31 0 = 0 ∧ M1 32 0 = 0) ∧ (∀ c : Nat, c < 144 → M1 33 c = if c = 0 then 1 else 0) := by
  obtain ⟨M1, e1, e2, e3⟩ := nfill_26 144 am_big 0 M (by omega) (by omega) (by decide)
  have eF : J_fill_33_n34 0 M = some M1 := e1
  have e4 : M1 1 3 = M 1 3 := by rw [e2 1 (by decide)]
  have hfB : M1 26 = M 26 := e2 26 (by decide)
  refine ⟨am_up (am_up (am_up (am_up (am_up (am_up (am_up (am_up (am_up M1 26 10 0) 28 0 0) 29 0 (M 1 3)) 30 0 0) 31 0 0) 32 0 0) 33 0 1) 26 11 0) 26 10 1, ?_, ?_, ⟨?_, ?_, fun j h1 h2 => ?_⟩, ⟨?_, ?_, ?_, ?_, ?_⟩, fun c hc => ?_⟩
  · unfold Trip_beginAt_26_n34 Trip_append_26_n34 Trip_append_26_n34_97 Country_isCell_n34 Country_isCell_n34_16
    simp (disch := omega) only [c_lt_p, c_eq_p, c_ne_p, c_ge_p, c_gt_p, c_le_p, rd_p, wa_p, wz_p, w8_p, fz_p, fw_p, tw_p, ck_p, ob_s, oc_s, if_pos, if_neg, am_upo, up_s, ne_eq, not_true_eq_false, not_false_eq_true, true_or, or_true, true_and, and_true, false_and, and_false, ck_t, reduceIte, Int.tmod_eq_emod_of_nonneg, Int.tdiv_eq_ediv_of_nonneg, eF, e4, Int.toNat_zero, Int.zero_add]
  · exact (((((((((e2.mo (by decide)).up (l := [26, 28, 29, 30, 31, 32, 33]) (by decide) rfl).up (by decide) rfl).up (by decide) rfl).up (by decide) rfl).up (by decide) rfl).up (by decide) rfl).up (by decide) rfl).up (by decide) rfl).up (by decide) rfl
  · rw [upj]
  · rw [upx (by decide), upj]
  · rw [upx h1, upx h2, upo (by decide), upo (by decide), upo (by decide), upo (by decide), upo (by decide), upo (by decide), upx h1, hfB]
  · rw [upo (by decide), upo (by decide), upo (by decide), upo (by decide), upo (by decide), upo (by decide), upo (by decide), upj]
  · rw [upo (by decide), upo (by decide), upo (by decide), upo (by decide), upo (by decide), upo (by decide), upj]
  · rw [upo (by decide), upo (by decide), upo (by decide), upo (by decide), upo (by decide), upj]
  · rw [upo (by decide), upo (by decide), upo (by decide), upo (by decide), upj]
  · rw [upo (by decide), upo (by decide), upo (by decide), upj]
  · rw [upo (by decide), upo (by decide)]
    by_cases q : c = 0
    · rw [q, upj, if_pos rfl]
    · rw [upx q, upo (by decide), upo (by decide), upo (by decide), upo (by decide), upo (by decide), upo (by decide), e3 c hc, if_neg (by omega), if_neg q]
theorem nfill_34 : ∀ (k n : Nat) (i : Int) (M : am_M), i + k = 144 → 0 ≤ i → k < n → ∃ M1, J_fill_41_n42_5 n 0 i 144 M = some M1 ∧ Ch [41] M M1 ∧ ∀ j : Nat, j < 144 → M1 41 j = if (j : Int) < i then M 41 j else 0
  | 0, n + 1, i, M, e, h0, hn => by
    refine ⟨M, ?_, Ch.rf, fun j hj => by rw [if_pos (by omega)]⟩
    unfold J_fill_41_n42_5
    simp (disch := omega) only [c_lt_p, c_eq_p, c_ne_p, c_ge_p, c_gt_p, c_le_p, rd_p, wa_p, wz_p, w8_p, fz_p, fw_p, tw_p, ck_p, ob_s, oc_s, if_pos, if_neg, am_upo, up_s, ne_eq, not_true_eq_false, not_false_eq_true, true_or, or_true, true_and, and_true, false_and, and_false, ck_t, reduceIte, Int.tmod_eq_emod_of_nonneg, Int.tdiv_eq_ediv_of_nonneg]
  | k + 1, n + 1, i, M, e, h0, hn => by
    obtain ⟨M1, h1, h2, h3⟩ := nfill_34 k n (i + 1) (am_up M 41 i.toNat 0) (by omega) (by omega) (by omega)
    refine ⟨M1, ?_, (Ch.rf.up (by decide) rfl).tr h2 (fun _ h => h), fun j hj => ?_⟩
    · unfold J_fill_41_n42_5
      simp (disch := omega) only [c_lt_p, c_eq_p, c_ne_p, c_ge_p, c_gt_p, c_le_p, rd_p, wa_p, wz_p, w8_p, fz_p, fw_p, tw_p, ck_p, ob_s, oc_s, if_pos, if_neg, am_upo, up_s, ne_eq, not_true_eq_false, not_false_eq_true, true_or, or_true, true_and, and_true, false_and, and_false, ck_t, reduceIte, Int.tmod_eq_emod_of_nonneg, Int.tdiv_eq_ediv_of_nonneg]
      exact h1
    · rw [h3 j hj]
      simp only [up_s]
      by_cases hji : (j : Int) < i
      · rw [if_pos (by omega), if_neg (by omega), if_pos hji]
      · rw [if_neg hji]
        by_cases hj2 : (j : Int) < i + 1
        · rw [if_pos hj2, if_pos (by omega)]
        · rw [if_neg hj2]
theorem nbeg_34 {M : am_M} : ∃ M1, Trip_beginAt_34_n42 0 M = some M1 ∧ Ch [34, 36, 37, 38, 39, 40, 41] M M1 ∧ (M1 34 10 = 1 ∧ M1 34 11 = 0 ∧ ∀ j, j ≠ 10 → j ≠ 11 → M1 34 j = M 34 j) ∧ (M1 36 0 = 0 ∧ M1 37 0 = M 1 3 ∧ M1 38 0 = 0 ∧ M1 39 0 = 0 ∧ M1 40 0 = 0) ∧ (∀ c : Nat, c < 144 → M1 41 c = if c = 0 then 1 else 0) := by
  obtain ⟨M1, e1, e2, e3⟩ := nfill_34 144 am_big 0 M (by omega) (by omega) (by decide)
  have eF : J_fill_41_n42 0 M = some M1 := e1
  have e4 : M1 1 3 = M 1 3 := by rw [e2 1 (by decide)]
  have hfB : M1 34 = M 34 := e2 34 (by decide)
  refine ⟨am_up (am_up (am_up (am_up (am_up (am_up (am_up (am_up (am_up M1 34 10 0) 36 0 0) 37 0 (M 1 3)) 38 0 0) 39 0 0) 40 0 0) 41 0 1) 34 11 0) 34 10 1, ?_, ?_, ⟨?_, ?_, fun j h1 h2 => ?_⟩, ⟨?_, ?_, ?_, ?_, ?_⟩, fun c hc => ?_⟩
  · unfold Trip_beginAt_34_n42 Trip_append_34_n42 Trip_append_34_n42_97 Country_isCell_n42 Country_isCell_n42_16
    simp (disch := omega) only [c_lt_p, c_eq_p, c_ne_p, c_ge_p, c_gt_p, c_le_p, rd_p, wa_p, wz_p, w8_p, fz_p, fw_p, tw_p, ck_p, ob_s, oc_s, if_pos, if_neg, am_upo, up_s, ne_eq, not_true_eq_false, not_false_eq_true, true_or, or_true, true_and, and_true, false_and, and_false, ck_t, reduceIte, Int.tmod_eq_emod_of_nonneg, Int.tdiv_eq_ediv_of_nonneg, eF, e4, Int.toNat_zero, Int.zero_add]
  · exact (((((((((e2.mo (by decide)).up (l := [34, 36, 37, 38, 39, 40, 41]) (by decide) rfl).up (by decide) rfl).up (by decide) rfl).up (by decide) rfl).up (by decide) rfl).up (by decide) rfl).up (by decide) rfl).up (by decide) rfl).up (by decide) rfl
  · rw [upj]
  · rw [upx (by decide), upj]
  · rw [upx h1, upx h2, upo (by decide), upo (by decide), upo (by decide), upo (by decide), upo (by decide), upo (by decide), upx h1, hfB]
  · rw [upo (by decide), upo (by decide), upo (by decide), upo (by decide), upo (by decide), upo (by decide), upo (by decide), upj]
  · rw [upo (by decide), upo (by decide), upo (by decide), upo (by decide), upo (by decide), upo (by decide), upj]
  · rw [upo (by decide), upo (by decide), upo (by decide), upo (by decide), upo (by decide), upj]
  · rw [upo (by decide), upo (by decide), upo (by decide), upo (by decide), upj]
  · rw [upo (by decide), upo (by decide), upo (by decide), upj]
  · rw [upo (by decide), upo (by decide)]
    by_cases q : c = 0
    · rw [q, upj, if_pos rfl]
    · rw [upx q, upo (by decide), upo (by decide), upo (by decide), upo (by decide), upo (by decide), upo (by decide), e3 c hc, if_neg (by omega), if_neg q]
theorem nfill_42 : ∀ (k n : Nat) (i : Int) (M : am_M), i + k = 144 → 0 ≤ i → k < n → ∃ M1, J_fill_49_n50_5 n 0 i 144 M = some M1 ∧ Ch [49] M M1 ∧ ∀ j : Nat, j < 144 → M1 49 j = if (j : Int) < i then M 49 j else 0
  | 0, n + 1, i, M, e, h0, hn => by
    refine ⟨M, ?_, Ch.rf, fun j hj => by rw [if_pos (by omega)]⟩
    unfold J_fill_49_n50_5
    simp (disch := omega) only [c_lt_p, c_eq_p, c_ne_p, c_ge_p, c_gt_p, c_le_p, rd_p, wa_p, wz_p, w8_p, fz_p, fw_p, tw_p, ck_p, ob_s, oc_s, if_pos, if_neg, am_upo, up_s, ne_eq, not_true_eq_false, not_false_eq_true, true_or, or_true, true_and, and_true, false_and, and_false, ck_t, reduceIte, Int.tmod_eq_emod_of_nonneg, Int.tdiv_eq_ediv_of_nonneg]
  | k + 1, n + 1, i, M, e, h0, hn => by
    obtain ⟨M1, h1, h2, h3⟩ := nfill_42 k n (i + 1) (am_up M 49 i.toNat 0) (by omega) (by omega) (by omega)
    refine ⟨M1, ?_, (Ch.rf.up (by decide) rfl).tr h2 (fun _ h => h), fun j hj => ?_⟩
    · unfold J_fill_49_n50_5
      simp (disch := omega) only [c_lt_p, c_eq_p, c_ne_p, c_ge_p, c_gt_p, c_le_p, rd_p, wa_p, wz_p, w8_p, fz_p, fw_p, tw_p, ck_p, ob_s, oc_s, if_pos, if_neg, am_upo, up_s, ne_eq, not_true_eq_false, not_false_eq_true, true_or, or_true, true_and, and_true, false_and, and_false, ck_t, reduceIte, Int.tmod_eq_emod_of_nonneg, Int.tdiv_eq_ediv_of_nonneg]
      exact h1
    · rw [h3 j hj]
      simp only [up_s]
      by_cases hji : (j : Int) < i
      · rw [if_pos (by omega), if_neg (by omega), if_pos hji]
      · rw [if_neg hji]
        by_cases hj2 : (j : Int) < i + 1
        · rw [if_pos hj2, if_pos (by omega)]
        · rw [if_neg hj2]
theorem nbeg_42 {M : am_M} : ∃ M1, Trip_beginAt_42_n50 0 M = some M1 ∧ Ch [42, 44, 45, 46, 47, 48, 49] M M1 ∧ (M1 42 10 = 1 ∧ M1 42 11 = 0 ∧ ∀ j, j ≠ 10 → j ≠ 11 → M1 42 j = M 42 j) ∧ (M1 44 0 = 0 ∧ M1 45 0 = M 1 3 ∧ M1 46 0 = 0 ∧ M1 47 0 = 0 ∧ M1 48 0 = 0) ∧ (∀ c : Nat, c < 144 → M1 49 c = if c = 0 then 1 else 0) := by
  obtain ⟨M1, e1, e2, e3⟩ := nfill_42 144 am_big 0 M (by omega) (by omega) (by decide)
  have eF : J_fill_49_n50 0 M = some M1 := e1
  have e4 : M1 1 3 = M 1 3 := by rw [e2 1 (by decide)]
  have hfB : M1 42 = M 42 := e2 42 (by decide)
  refine ⟨am_up (am_up (am_up (am_up (am_up (am_up (am_up (am_up (am_up M1 42 10 0) 44 0 0) 45 0 (M 1 3)) 46 0 0) 47 0 0) 48 0 0) 49 0 1) 42 11 0) 42 10 1, ?_, ?_, ⟨?_, ?_, fun j h1 h2 => ?_⟩, ⟨?_, ?_, ?_, ?_, ?_⟩, fun c hc => ?_⟩
  · unfold Trip_beginAt_42_n50 Trip_append_42_n50 Trip_append_42_n50_97 Country_isCell_n50 Country_isCell_n50_16
    simp (disch := omega) only [c_lt_p, c_eq_p, c_ne_p, c_ge_p, c_gt_p, c_le_p, rd_p, wa_p, wz_p, w8_p, fz_p, fw_p, tw_p, ck_p, ob_s, oc_s, if_pos, if_neg, am_upo, up_s, ne_eq, not_true_eq_false, not_false_eq_true, true_or, or_true, true_and, and_true, false_and, and_false, ck_t, reduceIte, Int.tmod_eq_emod_of_nonneg, Int.tdiv_eq_ediv_of_nonneg, eF, e4, Int.toNat_zero, Int.zero_add]
  · exact (((((((((e2.mo (by decide)).up (l := [42, 44, 45, 46, 47, 48, 49]) (by decide) rfl).up (by decide) rfl).up (by decide) rfl).up (by decide) rfl).up (by decide) rfl).up (by decide) rfl).up (by decide) rfl).up (by decide) rfl).up (by decide) rfl
  · rw [upj]
  · rw [upx (by decide), upj]
  · rw [upx h1, upx h2, upo (by decide), upo (by decide), upo (by decide), upo (by decide), upo (by decide), upo (by decide), upx h1, hfB]
  · rw [upo (by decide), upo (by decide), upo (by decide), upo (by decide), upo (by decide), upo (by decide), upo (by decide), upj]
  · rw [upo (by decide), upo (by decide), upo (by decide), upo (by decide), upo (by decide), upo (by decide), upj]
  · rw [upo (by decide), upo (by decide), upo (by decide), upo (by decide), upo (by decide), upj]
  · rw [upo (by decide), upo (by decide), upo (by decide), upo (by decide), upj]
  · rw [upo (by decide), upo (by decide), upo (by decide), upj]
  · rw [upo (by decide), upo (by decide)]
    by_cases q : c = 0
    · rw [q, upj, if_pos rfl]
    · rw [upx q, upo (by decide), upo (by decide), upo (by decide), upo (by decide), upo (by decide), upo (by decide), e3 c hc, if_neg (by omega), if_neg q]
def g0N : am_M := fun k j => if k = 0 then (if j = 1 then 1 else if j = 2 then 600 else 0) else if k = 2 then 2 else 0
def tz : am_M := fun k j => if k = 0 then (if j = 0 then -1 else if j = 1 then 1 else if j = 5 then 1 else 0) else if k = 3 then 1 else 0
theorem g0N_W : WG g0N := ⟨by decide, fun i hi => (by show 0 ≤ (0 : Int) ∧ (0 : Int) < 256; decide), fun c hc => (by show 0 ≤ (2 : Int) ∧ (2 : Int) ≤ 6; decide), fun p hp => (by show 0 ≤ (0 : Int) ∧ (0 : Int) ≤ 9; decide)⟩
theorem tz_W : WT tz := by
  refine ⟨by decide, fun p hp => ?_, fun p hp => (by show 0 ≤ (0 : Int) ∧ (0 : Int) ≤ 99; decide), fun p q hp hq _ => ?_⟩
  · show (0 ≤ (0 : Int) ∧ (0 : Int) < 144) ∧ (1 ≤ (1 : Int) ∧ (1 : Int) ≤ 4) ∧ (0 ≤ (0 : Int) ∧ (0 : Int) ≤ 99) ∧ (0 ≤ (0 : Int) ∧ (0 : Int) ≤ 3) ∧ (0 ≤ (0 : Int) ∧ (0 : Int) ≤ 1)
    decide
  · have h1 : (p : Int) < 1 := hp
    have h2 : (q : Int) < 1 := hq
    omega
theorem tz_b : begS tz g0N 0 = tz := by
  unfold begS
  rw [up_id (M := tz) (show tz 0 1 = 1 from rfl), up_id (M := tz) (show tz 0 2 = 0 from rfl), up_id (M := tz) (show tz 2 0 = 0 from rfl), up_id (M := tz) (show tz 3 0 = g0N 0 1 from rfl), up_id (M := tz) (show tz 4 0 = 0 from rfl), up_id (M := tz) (show tz 5 0 = 0 from rfl), up_id (M := tz) (show tz 6 0 = 0 from rfl)]
theorem tz_on {c : Int} : onB tz c = true ↔ c = 0 := by
  rw [onB_i]
  constructor
  · rintro ⟨p, _, h⟩
    have h' : (0 : Int) = c := h
    omega
  · intro h
    exact ⟨0, (by show ((0 : Nat) : Int) < 1; decide), (by show (0 : Int) = c; omega)⟩
theorem Pnew {M : am_M} (hz : ZB 0 M) : ∃ N, P_new_n1 M = some N ∧ ZB 73 N ∧ GP g0N N ∧ TP 26 tz N ∧ N 5 7 = 0 ∧ N 68 3 = 0 ∧ ∀ i, N 69 i = 0 := by
  have h1 : ZB 5 (am_up (am_up M 1 3 1) 1 4 600) := ((hz.mo (by omega)).up (by omega)).up (by omega)
  obtain ⟨M2, a1, a2, a3⟩ := nfil2 144 am_big 0 (am_up (am_up M 1 3 1) 1 4 600) (by omega) (by omega) (by decide)
  have aF : J_fill_2_n5 2 (am_up (am_up M 1 3 1) 1 4 600) = some M2 := a1
  have z2 : ZB 5 M2 := h1.ch a2 (by decide)
  obtain ⟨M4, b1, b2, b3, b4, b5⟩ := nbeg_26 (M := am_up (am_up M2 26 9 (-2)) 26 14 1)
  have z4 : ZB 34 M4 := (((z2.mo (by omega)).up (by omega)).up (by omega)).ch b2 (by decide)
  obtain ⟨M5, c1, c2, _⟩ := nbeg_34 (M := am_up (am_up M4 34 9 (-2)) 34 14 1)
  have z5 : ZB 42 M5 := (((z4.mo (by omega)).up (by omega)).up (by omega)).ch c2 (by decide)
  obtain ⟨M6, d1, d2, _⟩ := nbeg_42 (M := am_up (am_up M5 42 9 (-2)) 42 14 1)
  have z6 : ZB 50 M6 := (((z5.mo (by omega)).up (by omega)).up (by omega)).ch d2 (by decide)
  have z7 : ZB 50 (am_up M6 0 7 0) := z6.up (by omega)
  have e4 : ∀ k, k ≠ 0 → (k < 34 ∨ 49 < k) → (am_up M6 0 7 0) k = M4 k := fun k h1 h2 => by
    rw [upo h1, d2 k (by simp; omega), upo (by omega), upo (by omega), c2 k (by simp; omega), upo (by omega), upo (by omega)]
  have e2 : ∀ k, k ≠ 0 → (k < 26 ∨ k = 27 ∨ 49 < k) → (am_up M6 0 7 0) k = M2 k := fun k h1 h2 => by
    rw [e4 k h1 (by omega), b2 k (by simp; omega), upo (by omega), upo (by omega)]
  have e0 : ∀ k, k ≠ 0 → k ≠ 1 → k ≠ 2 → (k < 26 ∨ k = 27 ∨ 49 < k) → (am_up M6 0 7 0) k = fun _ => 0 := fun k h1 h2 h3 h4 => by
    rw [e2 k h1 h4, a2 k (by simp; omega), upo (by omega), upo (by omega)]
    exact hz k (by omega)
  have e1 : (am_up M6 0 7 0) 1 = (am_up (am_up M 1 3 1) 1 4 600) 1 := by rw [e2 1 (by decide) (by decide), a2 1 (by decide)]
  have e26 : (am_up M6 0 7 0) 26 = M4 26 := e4 26 (by decide) (by decide)
  have s26 : ∀ j, j ≠ 9 → j ≠ 14 → (am_up (am_up M2 26 9 (-2)) 26 14 1) 26 j = 0 := fun j h1 h2 => by
    rw [upx h2, upx h1, z2 26 (by decide)]
  refine ⟨am_up M6 0 7 0, ?_, z7.mo (by omega), ?_, ?_, by rw [e0 5 (by decide) (by decide) (by decide) (by decide)], by rw [e0 68 (by decide) (by decide) (by decide) (by decide)], fun i => by rw [e0 69 (by decide) (by decide) (by decide) (by decide)]⟩
  · unfold P_new_n1 Country_new_1_n2 Law_new_5_n6 Tape_new_n15 LawReader_new_16_n17 Law_new_17_n18 Trip_new_26_1_5_n27 Trip_new_34_1_5_n35 Trip_new_42_1_5_n43 Outing_new_50_1_5_n51 Routes_new_52_1_5_n53 Shifts_new_57_1_5_n58 Search_new_63_n64 Overgrowth_new_68_1_5_n69 Legs_new_72_n73
    rw [hz.nw (Nat.zero_le _), hz.nw (Nat.zero_le _), hz.nw (Nat.zero_le _), hz.nw (Nat.zero_le _), fw_p, fw_p, aF, ob_s, ob_s]
    repeat (first | rw [z2.nw (by decide)] | rw [ob_s])
    rw [fw_p, fw_p, b1]
    repeat (first | rw [z4.nw (by decide)] | rw [ob_s])
    rw [fw_p, fw_p, c1]
    repeat (first | rw [z5.nw (by decide)] | rw [ob_s])
    rw [fw_p, fw_p, d1, ob_s, ob_s, fz_p (Or.inl rfl)]
    repeat (first | rw [z7.nw (by decide)] | rw [ob_s])
  · refine ⟨⟨?_, ?_, ?_, ?_, ?_⟩, fun i hi => ?_, fun c hc => ?_, fun p hp => ?_⟩
    · rw [e0 14 (by decide) (by decide) (by decide) (by decide)]
      rfl
    · rw [e1, upx (by decide), upj]
      rfl
    · rw [e1, upj]
      rfl
    · rw [e0 5 (by decide) (by decide) (by decide) (by decide)]
      rfl
    · rw [upj]
      rfl
    · rw [e0 15 (by decide) (by decide) (by decide) (by decide)]
      rfl
    · rw [e2 2 (by decide) (by decide), a3 c hc, if_neg (by omega)]
      rfl
    · rw [e0 4 (by decide) (by decide) (by decide) (by decide)]
      rfl
  · refine ⟨⟨?_, ?_, ?_, ?_, ?_, ?_⟩, fun p hp => ?_, fun p hp => ?_, fun c hc => ?_⟩
    · rw [e26, b3.2.2 9 (by decide) (by decide), upx (by decide), upj]
      rfl
    · rw [e26, b3.1]
      rfl
    · rw [e26, b3.2.1]
      rfl
    · rw [e26, b3.2.2 12 (by decide) (by decide), s26 12 (by decide) (by decide)]
      rfl
    · rw [e26, b3.2.2 13 (by decide) (by decide), s26 13 (by decide) (by decide)]
      rfl
    · rw [e26, b3.2.2 14 (by decide) (by decide), upj]
      rfl
    · have hp' : (p : Int) < 1 := hp
      have : p = 0 := by omega
      subst this
      have hw : (am_up (am_up M2 26 9 (-2)) 26 14 1) 1 3 = 1 := by rw [upo (by decide), upo (by decide), a2 1 (by decide), upx (by decide), upj]
      show (am_up M6 0 7 0) 28 0 = 0 ∧ (am_up M6 0 7 0) 29 0 = 1 ∧ (am_up M6 0 7 0) 30 0 = 0 ∧ (am_up M6 0 7 0) 31 0 = 0 ∧ (am_up M6 0 7 0) 32 0 = 0
      rw [e4 28 (by decide) (by decide), e4 29 (by decide) (by decide), e4 30 (by decide) (by decide), e4 31 (by decide) (by decide), e4 32 (by decide) (by decide), ← hw]
      exact b4
    · show (am_up M6 0 7 0) 27 p = 0
      rw [e0 27 (by decide) (by decide) (by decide) (by decide)]
    · show (am_up M6 0 7 0) 33 c = _
      rw [e4 33 (by decide) (by decide), b5 c hc]
      by_cases q : c = 0
      · rw [if_pos q, if_pos (tz_on.mpr (by omega))]
      · rw [if_neg q, if_neg (fun h => q (by have := tz_on.mp h; omega))]
theorem nfil75 : ∀ (k n : Nat) (i : Int) (M : am_M), i + k = 144 → 0 ≤ i → k < n → ∃ M1, R_new_n74_454 n i M = (ob (R_beginsPath 0 M1) fun M1 => some M1) ∧ Ch [75] M M1 ∧ ∀ j : Nat, j < 144 → M1 75 j = if (j : Int) < i then M 75 j else 2
  | 0, n + 1, i, M, e, h0, hn => by
    refine ⟨M, ?_, Ch.rf, fun j hj => by rw [if_pos (by omega)]⟩
    rw [R_new_n74_454, c_ge_p (by omega) (by decide), if_pos (by omega)]
  | k + 1, n + 1, i, M, e, h0, hn => by
    obtain ⟨M1, h1, h2, h3⟩ := nfil75 k n (i + 1) (am_up M 75 i.toNat 2) (by omega) (by omega) (by omega)
    refine ⟨M1, ?_, (Ch.rf.up (by decide) rfl).tr h2 (fun _ h => h), fun j hj => ?_⟩
    · rw [R_new_n74_454, c_ge_p (by omega) (by decide), if_neg (by omega), wa_p (by omega)]
      exact h1
    · rw [h3 j hj]
      simp only [up_s]
      by_cases hji : (j : Int) < i
      · rw [if_pos (by omega), if_neg (by omega), if_pos hji]
      · rw [if_neg hji]
        by_cases hj2 : (j : Int) < i + 1
        · rw [if_pos hj2, if_pos (by omega)]
        · rw [if_neg hj2]
theorem Rnew {M : am_M} (hz : ZB 73 M) : ∃ N, R_new_n74 M = some N ∧ (∀ k, k < 73 → N k = M k) ∧ GR g0N N ∧ TR tz N ∧ N 73 19 = 0 ∧ BR N := by
  have z1 : ZB 74 M := hz.mo (by omega)
  have z2 : ZB 74 (am_up M 73 2 1) := z1.up (by omega)
  have z3 : ZB 74 (am_up (am_up (am_up (am_up M 73 2 1) 73 41 (-1)) 73 42 1) 73 43 600) := ((z2.up (by omega)).up (by omega)).up (by omega)
  have hM : (am_up (am_up (am_up (am_up M 73 2 1) 73 41 (-1)) 73 42 1) 73 43 600) 73 = fun j => if j = 43 then 600 else if j = 42 then 1 else if j = 41 then -1 else if j = 2 then 1 else 0 := by
    funext j
    rw [up_s, up_s, up_s, up_s, hz 73 (by omega)]
  have hk : ∀ k, k < 73 → (am_up (am_up (am_up (am_up M 73 2 1) 73 41 (-1)) 73 42 1) 73 43 600) k = M k := fun k hk => by rw [upo (by omega), upo (by omega), upo (by omega), upo (by omega)]
  have hrun : R_new_n74 M = R_new_n74_454 am_big 0 (am_up (am_up (am_up (am_up M 73 2 1) 73 41 (-1)) 73 42 1) 73 43 600) := by
    unfold R_new_n74
    rw [z1.nw (by decide), fw_p]
    repeat rw [z2.nw (by decide)]
    rw [fw_p, fw_p, fw_p]
    repeat rw [z3.nw (by decide)]
  generalize am_up (am_up (am_up (am_up M 73 2 1) 73 41 (-1)) 73 42 1) 73 43 600 = M1 at z3 hM hk hrun
  obtain ⟨M2, a1, a2, a3⟩ := nfil75 144 am_big 0 M1 (by omega) (by omega) (by decide)
  have m73 : M2 73 = fun j => if j = 43 then 600 else if j = 42 then 1 else if j = 41 then -1 else if j = 2 then 1 else 0 := (a2 73 (by decide)).trans hM
  have m0 : ∀ k, 73 < k → k ≠ 75 → M2 k = fun _ => 0 := fun k h1 h2 => by
    rw [a2 k (by simp; omega)]
    exact z3 k (by omega)
  have hG : GR g0N M2 := by
    refine ⟨?_, fun i hi => ?_, fun c hc => ?_, fun p hp => ?_⟩
    · rw [m73]
      exact ⟨rfl, rfl, rfl, rfl, rfl⟩
    · rw [m0 74 (by decide) (by decide), b_and255]
      rfl
    · rw [a3 c hc, if_neg (by omega)]
      rfl
    · rw [m0 92 (by decide) (by decide), m0 94 (by decide) (by decide)]
      exact ⟨rfl, rfl⟩
  obtain ⟨M3, b1, b2, b3, b4⟩ := begR 144 am_big 0 0 g0N tz M2 (by omega) (by omega) (by decide) g0N_W tz_W hG (by rw [m73]; exact ⟨rfl, rfl, rfl, rfl⟩) (fun p hp => by rw [m0 93 (by decide) (by decide)]; rfl) (fun x hx => by omega) (by omega) (by omega)
  have b1' : R_beginsPath 0 M2 = some M3 := b1
  rw [tz_b] at b2
  refine ⟨M3, ?_, fun k h => ?_, hG.nb b4 b3, b2, ?_, fun i hi => ?_⟩
  · rw [hrun, a1, b1', ob_s]
  · rw [b3 k (by simp; omega), a2 k (by simp; omega), hk k h]
  · rw [b4 19 (by decide) (by decide), m73]
    rfl
  · rw [b3 74 (by decide), m0 74 (by decide) (by decide)]
    show -128 ≤ (0 : Int) ∧ (0 : Int) ≤ 127
    decide
/-- where the law's loop begins -/
theorem law_new : ∃ N, (∀ (L : Nat) (xs : Nat → Int), BlazedPathLaw_law_999_n0 L xs (fun _ _ => 0) = BlazedPathLaw_law_999_n0_18 L xs am_big 0 N) ∧ IV 0 N ∧ BR N := by
  have hz : ZB 0 (fun _ _ => 0) := fun _ _ => rfl
  obtain ⟨M1, a1, a2, a3, a4, a5, a6, a7⟩ := Pnew hz
  obtain ⟨M2, b1, b2, b3, b4, b5, b6⟩ := Rnew a2
  have hC : PC (FLw []) g0N tz tz 0 M1 := ⟨a3, a4, fun q => absurd q (by decide), law_P (by decide) a5 trivial, by rw [a6]; decide, by rw [a6]; decide, fun i _ => by rw [a7 i, a6]; decide⟩
  refine ⟨M2, fun L xs => ?_, ⟨FLw [], g0N, tz, tz, ⟨g0N_W, tz_W, fun q => absurd rfl q, fun q => absurd q (by decide), FLw_O [] (fun c h => by cases h)⟩, hC.cg b2 (Nat.le_refl _), b3, b4, fun q => absurd q (by decide), law_R (by decide) b5 trivial⟩, b6⟩
  unfold BlazedPathLaw_law_999_n0
  rw [hz.nw (Nat.zero_le _), a1, ob_s, a2.nw (by decide), b1, ob_s]
