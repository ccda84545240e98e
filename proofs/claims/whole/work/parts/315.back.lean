/-- what is brought back: cells that are not touched -/
def BF (M N : am_M) : Prop := (∀ k, (k < 93 ∨ 93 < k) → (k < 95 ∨ 100 < k) → k ≠ 73 → N k = M k) ∧ (∀ j, j ≠ 46 → j ≠ 47 → j ≠ 41 → j ≠ 44 → j ≠ 45 → j ≠ 2 → N 73 j = M 73 j)
theorem BF.rf {M : am_M} : BF M M := ⟨fun _ _ _ _ => rfl, fun _ _ _ _ _ _ _ => rfl⟩
theorem BF.tr {M N O : am_M} (a : BF M N) (b : BF N O) : BF M O := ⟨fun k h1 h2 h3 => (b.1 k h1 h2 h3).trans (a.1 k h1 h2 h3), fun j h1 h2 h3 h4 h5 h6 => (b.2 j h1 h2 h3 h4 h5 h6).trans (a.2 j h1 h2 h3 h4 h5 h6)⟩
theorem BF.up {M N : am_M} {k0 j0 : Nat} {v : Int} (a : BF M N) (h : k0 = 93 ∨ (95 ≤ k0 ∧ k0 ≤ 100) ∨ (k0 = 73 ∧ (j0 = 46 ∨ j0 = 47 ∨ j0 = 41 ∨ j0 = 44 ∨ j0 = 45 ∨ j0 = 2))) : BF M (am_up N k0 j0 v) := by
  refine ⟨fun k h1 h2 h3 => ?_, fun j h1 h2 h3 h4 h5 h6 => ?_⟩
  · rw [upo (by omega)]; exact a.1 k h1 h2 h3
  · by_cases q : 73 = k0
    · subst q; rw [upx (by omega)]; exact a.2 j h1 h2 h3 h4 h5 h6
    · rw [upo q]; exact a.2 j h1 h2 h3 h4 h5 h6
theorem AS.cg {r : Nat} {u M N : am_M} (h : AS r u M) (e : ∀ k, 101 ≤ k → k ≤ 112 → N k = M k) : AS r u N := by
  unfold AS at h ⊢
  rw [e 101 (by omega) (by omega), e 102 (by omega) (by omega), e 103 (by omega) (by omega), e 104 (by omega) (by omega), e 105 (by omega) (by omega), e 106 (by omega) (by omega), e 107 (by omega) (by omega), e 108 (by omega) (by omega), e 109 (by omega) (by omega), e 110 (by omega) (by omega), e 111 (by omega) (by omega), e 112 (by omega) (by omega)]
  exact h
theorem back3 {r : Nat} (hr : r < 2) {u : am_M} (hw : WT u) : ∀ (k n i : Nat) (M : am_M), (i : Int) + k = u 0 1 → k < n → AS r u M → M 73 46 = u 0 1 → (∀ p : Nat, p < 6 → M 93 p = u 1 p) → (∀ p : Nat, p < i → M 95 p = u 2 p ∧ M 96 p = u 3 p ∧ M 97 p = u 4 p ∧ M 98 p = u 5 p ∧ M 99 p = u 6 p) → (∀ c : Nat, c < 144 → (M 100 c = -1 ∧ ∀ p : Nat, p < i → u 2 p ≠ c) ∨ (0 ≤ M 100 c ∧ M 100 c < i ∧ u 2 (M 100 c).toNat = c)) → ∃ M1, R_bringsBack_65 n (r : Int) (i : Int) M = some M1 ∧ TR u M1 ∧ BF M M1
  | 0, n + 1, i, M, e, hn, hA, h46, h1, h2, h3 => by
    have hl := hw.1
    obtain ⟨q1, q2, q3, q4, q5, q6⟩ := hA.1
    have f2 : ((r : Int)).toNat = r := by omega
    refine ⟨am_up (am_up (am_up (am_up (am_up M 73 47 (u 0 2)) 73 41 (u 0 0)) 73 44 (u 0 3)) 73 45 (u 0 4)) 73 2 (u 0 5), ?_, ⟨?_, fun p hp => ?_, fun p hp => ?_, fun c hc => ?_⟩, ?_⟩
    · unfold R_bringsBack_65
      simp (disch := omega) only [c_lt_p, c_eq_p, c_ne_p, c_ge_p, c_gt_p, c_le_p, rd_p, wa_p, wz_p, w8_p, fz_p, fw_p, tw_p, ck_p, ob_s, oc_s, if_pos, if_neg, am_upo, up_s, ne_eq, not_true_eq_false, not_false_eq_true, true_or, or_true, true_and, and_true, false_and, and_false, ck_t, reduceIte, Int.tmod_eq_emod_of_nonneg, Int.tdiv_eq_ediv_of_nonneg, h46, f2, q1, q3, q4, q5, q6]
    · simp (disch := omega) only [c_lt_p, c_eq_p, c_ne_p, c_ge_p, c_gt_p, c_le_p, rd_p, wa_p, wz_p, w8_p, fz_p, fw_p, tw_p, ck_p, ob_s, oc_s, if_pos, if_neg, am_upo, up_s, ne_eq, not_true_eq_false, not_false_eq_true, true_or, or_true, true_and, and_true, false_and, and_false, ck_t, reduceIte, Int.tmod_eq_emod_of_nonneg, Int.tdiv_eq_ediv_of_nonneg]
      exact h46
    · simp (disch := omega) only [c_lt_p, c_eq_p, c_ne_p, c_ge_p, c_gt_p, c_le_p, rd_p, wa_p, wz_p, w8_p, fz_p, fw_p, tw_p, ck_p, ob_s, oc_s, if_pos, if_neg, am_upo, up_s, ne_eq, not_true_eq_false, not_false_eq_true, true_or, or_true, true_and, and_true, false_and, and_false, ck_t, reduceIte, Int.tmod_eq_emod_of_nonneg, Int.tdiv_eq_ediv_of_nonneg]
      exact h2 p (by omega)
    · simp (disch := omega) only [c_lt_p, c_eq_p, c_ne_p, c_ge_p, c_gt_p, c_le_p, rd_p, wa_p, wz_p, w8_p, fz_p, fw_p, tw_p, ck_p, ob_s, oc_s, if_pos, if_neg, am_upo, up_s, ne_eq, not_true_eq_false, not_false_eq_true, true_or, or_true, true_and, and_true, false_and, and_false, ck_t, reduceIte, Int.tmod_eq_emod_of_nonneg, Int.tdiv_eq_ediv_of_nonneg]
      exact h1 p hp
    · simp (disch := omega) only [c_lt_p, c_eq_p, c_ne_p, c_ge_p, c_gt_p, c_le_p, rd_p, wa_p, wz_p, w8_p, fz_p, fw_p, tw_p, ck_p, ob_s, oc_s, if_pos, if_neg, am_upo, up_s, ne_eq, not_true_eq_false, not_false_eq_true, true_or, or_true, true_and, and_true, false_and, and_false, ck_t, reduceIte, Int.tmod_eq_emod_of_nonneg, Int.tdiv_eq_ediv_of_nonneg]
      rcases h3 c hc with ⟨g1, g2⟩ | g
      · left
        refine ⟨g1, ?_⟩
        rw [← Bool.not_eq_true, onB_i]
        rintro ⟨p, hp, he⟩
        exact g2 p (by omega) he
      · right
        exact ⟨g.1, by omega, g.2.2⟩
    · exact ((((BF.rf.up (by omega)).up (by omega)).up (by omega)).up (by omega)).up (by omega)
  | k + 1, n + 1, i, M, e, hn, hA, h46, h1, h2, h3 => by
    have hl := hw.1
    obtain ⟨c1, c2, c3, c4, c5⟩ := hA.2.1 i (by omega)
    have ha := hw.2.1 i (by omega)
    obtain ⟨M1, e1, e2, e3⟩ := back3 hr hw k n (i + 1) (am_up (am_up (am_up (am_up (am_up (am_up M 95 i (u 2 i)) 96 i (u 3 i)) 97 i (u 4 i)) 98 i (u 5 i)) 99 i (u 6 i)) 100 (u 2 i).toNat (i : Int)) (by omega) (by omega) (hA.cg (fun k a b => by simp (disch := omega) only [c_lt_p, c_eq_p, c_ne_p, c_ge_p, c_gt_p, c_le_p, rd_p, wa_p, wz_p, w8_p, fz_p, fw_p, tw_p, ck_p, ob_s, oc_s, if_pos, if_neg, am_upo, up_s, ne_eq, not_true_eq_false, not_false_eq_true, true_or, or_true, true_and, and_true, false_and, and_false, ck_t, reduceIte, Int.tmod_eq_emod_of_nonneg, Int.tdiv_eq_ediv_of_nonneg])) (by simp (disch := omega) only [c_lt_p, c_eq_p, c_ne_p, c_ge_p, c_gt_p, c_le_p, rd_p, wa_p, wz_p, w8_p, fz_p, fw_p, tw_p, ck_p, ob_s, oc_s, if_pos, if_neg, am_upo, up_s, ne_eq, not_true_eq_false, not_false_eq_true, true_or, or_true, true_and, and_true, false_and, and_false, ck_t, reduceIte, Int.tmod_eq_emod_of_nonneg, Int.tdiv_eq_ediv_of_nonneg]; exact h46) (fun p hp => by simp (disch := omega) only [c_lt_p, c_eq_p, c_ne_p, c_ge_p, c_gt_p, c_le_p, rd_p, wa_p, wz_p, w8_p, fz_p, fw_p, tw_p, ck_p, ob_s, oc_s, if_pos, if_neg, am_upo, up_s, ne_eq, not_true_eq_false, not_false_eq_true, true_or, or_true, true_and, and_true, false_and, and_false, ck_t, reduceIte, Int.tmod_eq_emod_of_nonneg, Int.tdiv_eq_ediv_of_nonneg]; exact h1 p hp) (fun p hp => by
      by_cases q : p = i
      · subst q
        simp (disch := omega) only [c_lt_p, c_eq_p, c_ne_p, c_ge_p, c_gt_p, c_le_p, rd_p, wa_p, wz_p, w8_p, fz_p, fw_p, tw_p, ck_p, ob_s, oc_s, if_pos, if_neg, am_upo, up_s, ne_eq, not_true_eq_false, not_false_eq_true, true_or, or_true, true_and, and_true, false_and, and_false, ck_t, reduceIte, Int.tmod_eq_emod_of_nonneg, Int.tdiv_eq_ediv_of_nonneg]
      · simp (disch := omega) only [c_lt_p, c_eq_p, c_ne_p, c_ge_p, c_gt_p, c_le_p, rd_p, wa_p, wz_p, w8_p, fz_p, fw_p, tw_p, ck_p, ob_s, oc_s, if_pos, if_neg, am_upo, up_s, ne_eq, not_true_eq_false, not_false_eq_true, true_or, or_true, true_and, and_true, false_and, and_false, ck_t, reduceIte, Int.tmod_eq_emod_of_nonneg, Int.tdiv_eq_ediv_of_nonneg]
        exact h2 p (by omega)) (fun c hc => by
      by_cases q : c = (u 2 i).toNat
      · right
        simp (disch := omega) only [c_lt_p, c_eq_p, c_ne_p, c_ge_p, c_gt_p, c_le_p, rd_p, wa_p, wz_p, w8_p, fz_p, fw_p, tw_p, ck_p, ob_s, oc_s, if_pos, if_neg, am_upo, up_s, ne_eq, not_true_eq_false, not_false_eq_true, true_or, or_true, true_and, and_true, false_and, and_false, ck_t, reduceIte, Int.tmod_eq_emod_of_nonneg, Int.tdiv_eq_ediv_of_nonneg]
        refine ⟨by omega, by omega, ?_⟩
        rw [show ((i : Int)).toNat = i by omega]
        omega
      · simp (disch := omega) only [c_lt_p, c_eq_p, c_ne_p, c_ge_p, c_gt_p, c_le_p, rd_p, wa_p, wz_p, w8_p, fz_p, fw_p, tw_p, ck_p, ob_s, oc_s, if_pos, if_neg, am_upo, up_s, ne_eq, not_true_eq_false, not_false_eq_true, true_or, or_true, true_and, and_true, false_and, and_false, ck_t, reduceIte, Int.tmod_eq_emod_of_nonneg, Int.tdiv_eq_ediv_of_nonneg]
        rcases h3 c hc with ⟨g1, g2⟩ | g
        · left
          refine ⟨g1, fun p hp => ?_⟩
          by_cases q2 : p = i
          · subst q2
            omega
          · exact g2 p (by omega)
        · right
          exact ⟨g.1, by omega, g.2.2⟩)
    refine ⟨M1, ?_, e2, BF.tr ((((((BF.rf.up (by omega)).up (by omega)).up (by omega)).up (by omega)).up (by omega)).up (by omega)) e3⟩
    have f1 : ((100 : Int) * (r : Int) + (i : Int)).toNat = 100 * r + i := by omega
    have f2 : ((i : Int)).toNat = i := by omega
    unfold R_bringsBack_65
    simp (disch := omega) only [c_lt_p, c_eq_p, c_ne_p, c_ge_p, c_gt_p, c_le_p, rd_p, wa_p, wz_p, w8_p, fz_p, fw_p, tw_p, ck_p, ob_s, oc_s, if_pos, if_neg, am_upo, up_s, ne_eq, not_true_eq_false, not_false_eq_true, true_or, or_true, true_and, and_true, false_and, and_false, ck_t, reduceIte, Int.tmod_eq_emod_of_nonneg, Int.tdiv_eq_ediv_of_nonneg, h46, f1, f2, c1, c2, c3, c4, c5]
    exact e1
theorem back2 {r : Nat} (hr : r < 2) {u : am_M} (hw : WT u) : ∀ (k n i : Nat) (M : am_M), i + k = 144 → k < n → AS r u M → (∀ p : Nat, p < 6 → M 93 p = u 1 p) → (∀ c : Nat, c < i → M 100 c = -1) → ∃ M1, R_bringsBack_33 n (r : Int) (i : Int) M = some M1 ∧ TR u M1 ∧ BF M M1
  | 0, n + 1, i, M, e, hn, hA, h1, h2 => by
    have hl := hw.1
    have q2 := hA.1.2.1
    have f2 : ((r : Int)).toNat = r := by omega
    obtain ⟨M1, e1, e2, e3⟩ := back3 hr hw (u 0 1).toNat am_big 0 (am_up M 73 46 (u 0 1)) (by omega) (by show _ < 1000000; omega) (hA.cg (fun k a b => by simp (disch := omega) only [c_lt_p, c_eq_p, c_ne_p, c_ge_p, c_gt_p, c_le_p, rd_p, wa_p, wz_p, w8_p, fz_p, fw_p, tw_p, ck_p, ob_s, oc_s, if_pos, if_neg, am_upo, up_s, ne_eq, not_true_eq_false, not_false_eq_true, true_or, or_true, true_and, and_true, false_and, and_false, ck_t, reduceIte, Int.tmod_eq_emod_of_nonneg, Int.tdiv_eq_ediv_of_nonneg])) (by simp (disch := omega) only [c_lt_p, c_eq_p, c_ne_p, c_ge_p, c_gt_p, c_le_p, rd_p, wa_p, wz_p, w8_p, fz_p, fw_p, tw_p, ck_p, ob_s, oc_s, if_pos, if_neg, am_upo, up_s, ne_eq, not_true_eq_false, not_false_eq_true, true_or, or_true, true_and, and_true, false_and, and_false, ck_t, reduceIte, Int.tmod_eq_emod_of_nonneg, Int.tdiv_eq_ediv_of_nonneg]) (fun p hp => by simp (disch := omega) only [c_lt_p, c_eq_p, c_ne_p, c_ge_p, c_gt_p, c_le_p, rd_p, wa_p, wz_p, w8_p, fz_p, fw_p, tw_p, ck_p, ob_s, oc_s, if_pos, if_neg, am_upo, up_s, ne_eq, not_true_eq_false, not_false_eq_true, true_or, or_true, true_and, and_true, false_and, and_false, ck_t, reduceIte, Int.tmod_eq_emod_of_nonneg, Int.tdiv_eq_ediv_of_nonneg]; exact h1 p hp) (fun p hp => by omega) (fun c hc => by
      left
      refine ⟨?_, fun p hp => by omega⟩
      simp (disch := omega) only [c_lt_p, c_eq_p, c_ne_p, c_ge_p, c_gt_p, c_le_p, rd_p, wa_p, wz_p, w8_p, fz_p, fw_p, tw_p, ck_p, ob_s, oc_s, if_pos, if_neg, am_upo, up_s, ne_eq, not_true_eq_false, not_false_eq_true, true_or, or_true, true_and, and_true, false_and, and_false, ck_t, reduceIte, Int.tmod_eq_emod_of_nonneg, Int.tdiv_eq_ediv_of_nonneg]
      exact h2 c (by omega))
    refine ⟨M1, ?_, e2, BF.tr (BF.rf.up (by omega)) e3⟩
    unfold R_bringsBack_33
    simp (disch := omega) only [c_lt_p, c_eq_p, c_ne_p, c_ge_p, c_gt_p, c_le_p, rd_p, wa_p, wz_p, w8_p, fz_p, fw_p, tw_p, ck_p, ob_s, oc_s, if_pos, if_neg, am_upo, up_s, ne_eq, not_true_eq_false, not_false_eq_true, true_or, or_true, true_and, and_true, false_and, and_false, ck_t, reduceIte, Int.tmod_eq_emod_of_nonneg, Int.tdiv_eq_ediv_of_nonneg, f2, q2]
    exact e1
  | k + 1, n + 1, i, M, e, hn, hA, h1, h2 => by
    obtain ⟨M1, e1, e2, e3⟩ := back2 hr hw k n (i + 1) (am_up M 100 i (-1)) (by omega) (by omega) (hA.cg (fun k a b => by simp (disch := omega) only [c_lt_p, c_eq_p, c_ne_p, c_ge_p, c_gt_p, c_le_p, rd_p, wa_p, wz_p, w8_p, fz_p, fw_p, tw_p, ck_p, ob_s, oc_s, if_pos, if_neg, am_upo, up_s, ne_eq, not_true_eq_false, not_false_eq_true, true_or, or_true, true_and, and_true, false_and, and_false, ck_t, reduceIte, Int.tmod_eq_emod_of_nonneg, Int.tdiv_eq_ediv_of_nonneg])) (fun p hp => by simp (disch := omega) only [c_lt_p, c_eq_p, c_ne_p, c_ge_p, c_gt_p, c_le_p, rd_p, wa_p, wz_p, w8_p, fz_p, fw_p, tw_p, ck_p, ob_s, oc_s, if_pos, if_neg, am_upo, up_s, ne_eq, not_true_eq_false, not_false_eq_true, true_or, or_true, true_and, and_true, false_and, and_false, ck_t, reduceIte, Int.tmod_eq_emod_of_nonneg, Int.tdiv_eq_ediv_of_nonneg]; exact h1 p hp) (fun c hc => by
      by_cases q : c = i
      · simp (disch := omega) only [c_lt_p, c_eq_p, c_ne_p, c_ge_p, c_gt_p, c_le_p, rd_p, wa_p, wz_p, w8_p, fz_p, fw_p, tw_p, ck_p, ob_s, oc_s, if_pos, if_neg, am_upo, up_s, ne_eq, not_true_eq_false, not_false_eq_true, true_or, or_true, true_and, and_true, false_and, and_false, ck_t, reduceIte, Int.tmod_eq_emod_of_nonneg, Int.tdiv_eq_ediv_of_nonneg]
      · simp (disch := omega) only [c_lt_p, c_eq_p, c_ne_p, c_ge_p, c_gt_p, c_le_p, rd_p, wa_p, wz_p, w8_p, fz_p, fw_p, tw_p, ck_p, ob_s, oc_s, if_pos, if_neg, am_upo, up_s, ne_eq, not_true_eq_false, not_false_eq_true, true_or, or_true, true_and, and_true, false_and, and_false, ck_t, reduceIte, Int.tmod_eq_emod_of_nonneg, Int.tdiv_eq_ediv_of_nonneg]
        exact h2 c (by omega))
    refine ⟨M1, ?_, e2, BF.tr (BF.rf.up (by omega)) e3⟩
    have f2 : ((i : Int)).toNat = i := by omega
    unfold R_bringsBack_33
    simp (disch := omega) only [c_lt_p, c_eq_p, c_ne_p, c_ge_p, c_gt_p, c_le_p, rd_p, wa_p, wz_p, w8_p, fz_p, fw_p, tw_p, ck_p, ob_s, oc_s, if_pos, if_neg, am_upo, up_s, ne_eq, not_true_eq_false, not_false_eq_true, true_or, or_true, true_and, and_true, false_and, and_false, ck_t, reduceIte, Int.tmod_eq_emod_of_nonneg, Int.tdiv_eq_ediv_of_nonneg, f2]
    exact e1
theorem back1 {r : Nat} (hr : r < 2) {u : am_M} (hw : WT u) : ∀ (k n i : Nat) (M : am_M), i + k = 6 → k < n → AS r u M → (∀ p : Nat, p < i → M 93 p = u 1 p) → ∃ M1, R_bringsBack_2 n (r : Int) (i : Int) M = some M1 ∧ TR u M1 ∧ BF M M1
  | 0, n + 1, i, M, e, hn, hA, h1 => by
    obtain ⟨M1, e1, e2, e3⟩ := back2 hr hw 144 am_big 0 M (by omega) (by decide) hA (fun p hp => h1 p (by omega)) (fun c hc => by omega)
    refine ⟨M1, ?_, e2, e3⟩
    unfold R_bringsBack_2
    simp (disch := omega) only [c_lt_p, c_eq_p, c_ne_p, c_ge_p, c_gt_p, c_le_p, rd_p, wa_p, wz_p, w8_p, fz_p, fw_p, tw_p, ck_p, ob_s, oc_s, if_pos, if_neg, am_upo, up_s, ne_eq, not_true_eq_false, not_false_eq_true, true_or, or_true, true_and, and_true, false_and, and_false, ck_t, reduceIte, Int.tmod_eq_emod_of_nonneg, Int.tdiv_eq_ediv_of_nonneg]
    exact e1
  | k + 1, n + 1, i, M, e, hn, hA, h1 => by
    have c1 := hA.2.2 i (by omega)
    obtain ⟨M1, e1, e2, e3⟩ := back1 hr hw k n (i + 1) (am_up M 93 i (u 1 i)) (by omega) (by omega) (hA.cg (fun k a b => by simp (disch := omega) only [c_lt_p, c_eq_p, c_ne_p, c_ge_p, c_gt_p, c_le_p, rd_p, wa_p, wz_p, w8_p, fz_p, fw_p, tw_p, ck_p, ob_s, oc_s, if_pos, if_neg, am_upo, up_s, ne_eq, not_true_eq_false, not_false_eq_true, true_or, or_true, true_and, and_true, false_and, and_false, ck_t, reduceIte, Int.tmod_eq_emod_of_nonneg, Int.tdiv_eq_ediv_of_nonneg])) (fun p hp => by
      by_cases q : p = i
      · subst q
        simp (disch := omega) only [c_lt_p, c_eq_p, c_ne_p, c_ge_p, c_gt_p, c_le_p, rd_p, wa_p, wz_p, w8_p, fz_p, fw_p, tw_p, ck_p, ob_s, oc_s, if_pos, if_neg, am_upo, up_s, ne_eq, not_true_eq_false, not_false_eq_true, true_or, or_true, true_and, and_true, false_and, and_false, ck_t, reduceIte, Int.tmod_eq_emod_of_nonneg, Int.tdiv_eq_ediv_of_nonneg]
      · simp (disch := omega) only [c_lt_p, c_eq_p, c_ne_p, c_ge_p, c_gt_p, c_le_p, rd_p, wa_p, wz_p, w8_p, fz_p, fw_p, tw_p, ck_p, ob_s, oc_s, if_pos, if_neg, am_upo, up_s, ne_eq, not_true_eq_false, not_false_eq_true, true_or, or_true, true_and, and_true, false_and, and_false, ck_t, reduceIte, Int.tmod_eq_emod_of_nonneg, Int.tdiv_eq_ediv_of_nonneg]
        exact h1 p (by omega))
    refine ⟨M1, ?_, e2, BF.tr (BF.rf.up (by omega)) e3⟩
    have f1 : ((6 : Int) * (r : Int) + (i : Int)).toNat = 6 * r + i := by omega
    have f2 : ((i : Int)).toNat = i := by omega
    unfold R_bringsBack_2
    simp (disch := omega) only [c_lt_p, c_eq_p, c_ne_p, c_ge_p, c_gt_p, c_le_p, rd_p, wa_p, wz_p, w8_p, fz_p, fw_p, tw_p, ck_p, ob_s, oc_s, if_pos, if_neg, am_upo, up_s, ne_eq, not_true_eq_false, not_false_eq_true, true_or, or_true, true_and, and_true, false_and, and_false, ck_t, reduceIte, Int.tmod_eq_emod_of_nonneg, Int.tdiv_eq_ediv_of_nonneg, f1, f2, c1]
    exact e1
theorem R_bringsBack_eq {r : Nat} (hr : r < 2) {u M : am_M} (hw : WT u) (hA : AS r u M) : ∃ M1, R_bringsBack (r : Int) M = some M1 ∧ TR u M1 ∧ BF M M1 := back1 hr hw 6 am_big 0 M (by omega) (by decide) hA (fun p hp => by omega)
theorem KR.as {u M : am_M} : KR u M ↔ AS 1 u M := Iff.rfl
theorem GR.bf {g M N : am_M} (h : GR g M) (f : BF M N) : GR g N := by
  unfold GR at h ⊢
  rw [f.2 1 (by decide) (by decide) (by decide) (by decide) (by decide) (by decide), f.2 42 (by decide) (by decide) (by decide) (by decide) (by decide) (by decide), f.2 43 (by decide) (by decide) (by decide) (by decide) (by decide) (by decide), f.2 19 (by decide) (by decide) (by decide) (by decide) (by decide) (by decide), f.2 66 (by decide) (by decide) (by decide) (by decide) (by decide) (by decide), f.1 74 (by decide) (by decide) (by decide), f.1 75 (by decide) (by decide) (by decide), f.1 92 (by decide) (by decide) (by decide), f.1 94 (by decide) (by decide) (by decide)]
  exact h
theorem P_keep_ok {n : Nat} : OK2 n P_keep R_keep := by
  refine OK2.of (lp := [0, 42, 43, 44, 45, 46, 47, 48, 49]) (lr := [73, 101, 102, 103, 104, 105, 106, 107, 108, 109, 110, 111, 112]) (by decide) (by decide) (fun M r h => (P_keep_c M r h).mo (by decide)) (fun M r h => (R_keep_c M r h).mo (by decide)) (fun F g t u hW => ?_)
  have hl := hW.2.1.1
  refine ⟨t 0 1, F, am_up g 0 4 1, t, t, by omega, ?_, fun M hC => ?_, fun M hR => ?_⟩
  · obtain ⟨h1, h2, h3, h4, h5⟩ := hW
    unfold PW WG
    simp (disch := omega) only [c_lt_p, c_eq_p, c_ne_p, c_ge_p, c_gt_p, c_le_p, rd_p, wa_p, wz_p, w8_p, fz_p, fw_p, tw_p, ck_p, ob_s, oc_s, if_pos, if_neg, am_upo, up_s, ne_eq, not_true_eq_false, not_false_eq_true, true_or, or_true, true_and, and_true, false_and, and_false, ck_t, reduceIte, Int.tmod_eq_emod_of_nonneg, Int.tdiv_eq_ediv_of_nonneg]
    have := h1.1
    exact ⟨⟨by omega, h1.2⟩, h2, h3, fun _ => ⟨h2, h3⟩, h5⟩
  · obtain ⟨h1, h2, h3, h4, h5⟩ := hC
    obtain ⟨M1, e1, e2⟩ := Trip_copyFrom_42_26_eq hW.2.1 h2
    have e3 := Trip_copyFrom_42_26_c M M1 e1
    have e4 : M1 26 10 = t 0 1 := by rw [e3 26 (by decide)]; exact h2.1.2.1
    refine ⟨am_up M1 0 7 1, ?_, ?_, (h2.cg (fun k a b => e3 k (by simp; omega))).cg (fun k a b => upo (by omega)), fun _ => e2.cg (fun k a b => upo (by omega)), (h4.cg (fun k a b => e3 k (by simp; omega))).cg (fun k a b => upo (by omega)), (h5.cg (fun k a b => e3 k (by simp; omega)) (Nat.le_refl _)).cg (fun k a b => upo (by omega)) (by omega)⟩
    · unfold P_keep
      simp (disch := omega) only [c_lt_p, c_eq_p, c_ne_p, c_ge_p, c_gt_p, c_le_p, rd_p, wa_p, wz_p, w8_p, fz_p, fw_p, tw_p, ck_p, ob_s, oc_s, if_pos, if_neg, am_upo, up_s, ne_eq, not_true_eq_false, not_false_eq_true, true_or, or_true, true_and, and_true, false_and, and_false, ck_t, reduceIte, Int.tmod_eq_emod_of_nonneg, Int.tdiv_eq_ediv_of_nonneg, e1, e4]
    · have h6 := h1.cg (N := M1) (fun k a => e3 k (by simp; omega))
      unfold GP at h6 ⊢
      simp (disch := omega) only [c_lt_p, c_eq_p, c_ne_p, c_ge_p, c_gt_p, c_le_p, rd_p, wa_p, wz_p, w8_p, fz_p, fw_p, tw_p, ck_p, ob_s, oc_s, if_pos, if_neg, am_upo, up_s, ne_eq, not_true_eq_false, not_false_eq_true, true_or, or_true, true_and, and_true, false_and, and_false, ck_t, reduceIte, Int.tmod_eq_emod_of_nonneg, Int.tdiv_eq_ediv_of_nonneg]
      exact ⟨⟨h6.1.1, h6.1.2.1, h6.1.2.2.1, h6.1.2.2.2.1⟩, h6.2⟩
  · obtain ⟨h1, h2, h3, h4⟩ := hR
    have hT' : TR t (am_up M 73 66 1) := by
      unfold TR at h2 ⊢
      simp (disch := omega) only [c_lt_p, c_eq_p, c_ne_p, c_ge_p, c_gt_p, c_le_p, rd_p, wa_p, wz_p, w8_p, fz_p, fw_p, tw_p, ck_p, ob_s, oc_s, if_pos, if_neg, am_upo, up_s, ne_eq, not_true_eq_false, not_false_eq_true, true_or, or_true, true_and, and_true, false_and, and_false, ck_t, reduceIte, Int.tmod_eq_emod_of_nonneg, Int.tdiv_eq_ediv_of_nonneg]
      exact h2
    obtain ⟨M1, e1, e2, e3⟩ := R_laysAside_eq (r := 1) (by decide) hW.2.1 hT'
    have e73 : M1 73 = am_up M 73 66 1 73 := e3.1 73 (by decide)
    refine ⟨M1, ?_, ?_, hT'.cg' (fun k a b => e3.1 k (by omega)), fun _ => e2, h4.cg (fun k a b => by rw [e3.1 k (by omega), upo (by omega)]) (by rw [e73]; simp (disch := omega) only [c_lt_p, c_eq_p, c_ne_p, c_ge_p, c_gt_p, c_le_p, rd_p, wa_p, wz_p, w8_p, fz_p, fw_p, tw_p, ck_p, ob_s, oc_s, if_pos, if_neg, am_upo, up_s, ne_eq, not_true_eq_false, not_false_eq_true, true_or, or_true, true_and, and_true, false_and, and_false, ck_t, reduceIte, Int.tmod_eq_emod_of_nonneg, Int.tdiv_eq_ediv_of_nonneg])⟩
    · have e5 : M1 73 46 = t 0 1 := by rw [e73]; simp (disch := omega) only [c_lt_p, c_eq_p, c_ne_p, c_ge_p, c_gt_p, c_le_p, rd_p, wa_p, wz_p, w8_p, fz_p, fw_p, tw_p, ck_p, ob_s, oc_s, if_pos, if_neg, am_upo, up_s, ne_eq, not_true_eq_false, not_false_eq_true, true_or, or_true, true_and, and_true, false_and, and_false, ck_t, reduceIte, Int.tmod_eq_emod_of_nonneg, Int.tdiv_eq_ediv_of_nonneg]; exact h2.1.2.1
      unfold R_keep
      simp (disch := omega) only [c_lt_p, c_eq_p, c_ne_p, c_ge_p, c_gt_p, c_le_p, rd_p, wa_p, wz_p, w8_p, fz_p, fw_p, tw_p, ck_p, ob_s, oc_s, if_pos, if_neg, am_upo, up_s, ne_eq, not_true_eq_false, not_false_eq_true, true_or, or_true, true_and, and_true, false_and, and_false, ck_t, reduceIte, Int.tmod_eq_emod_of_nonneg, Int.tdiv_eq_ediv_of_nonneg]
      rw [show R_laysAside 1 (am_up M 73 66 1) = some M1 from e1]
      simp (disch := omega) only [c_lt_p, c_eq_p, c_ne_p, c_ge_p, c_gt_p, c_le_p, rd_p, wa_p, wz_p, w8_p, fz_p, fw_p, tw_p, ck_p, ob_s, oc_s, if_pos, if_neg, am_upo, up_s, ne_eq, not_true_eq_false, not_false_eq_true, true_or, or_true, true_and, and_true, false_and, and_false, ck_t, reduceIte, Int.tmod_eq_emod_of_nonneg, Int.tdiv_eq_ediv_of_nonneg, e5]
    · unfold GR at h1 ⊢
      rw [e73, e3.1 74 (by decide), e3.1 75 (by decide), e3.1 92 (by decide), e3.1 94 (by decide)]
      simp (disch := omega) only [c_lt_p, c_eq_p, c_ne_p, c_ge_p, c_gt_p, c_le_p, rd_p, wa_p, wz_p, w8_p, fz_p, fw_p, tw_p, ck_p, ob_s, oc_s, if_pos, if_neg, am_upo, up_s, ne_eq, not_true_eq_false, not_false_eq_true, true_or, or_true, true_and, and_true, false_and, and_false, ck_t, reduceIte, Int.tmod_eq_emod_of_nonneg, Int.tdiv_eq_ediv_of_nonneg]
      exact ⟨⟨h1.1.1, h1.1.2.1, h1.1.2.2.1, h1.1.2.2.2.1⟩, h1.2⟩
theorem P_undo_ok {n : Nat} : OK2 n P_undo R_undo := by
  refine OK2.of (lp := [26, 27, 28, 29, 30, 31, 32, 33]) (lr := [73, 93, 95, 96, 97, 98, 99, 100]) (by decide) (by decide) (fun M r h => (P_undo_c M r h).mo (by decide)) (fun M r h => (R_undo_c M r h).mo (by decide)) (fun F g t u hW => ?_)
  have hg1 := hW.1.1
  by_cases hc : g 0 4 = 1
  · obtain ⟨hu, hul⟩ := hW.2.2.2.1 hc
    refine ⟨1, F, g, u, u, by decide, ⟨hW.1, hu, hul, hW.2.2.2.1, hW.2.2.2.2⟩, fun M hC => ?_, fun M hR => ?_⟩
    · obtain ⟨h1, h2, h3, h4, h5⟩ := hC
      obtain ⟨M1, e1, e2⟩ := Trip_copyFrom_26_42_eq hu (h3 hc)
      have e3 := Trip_copyFrom_26_42_c M M1 e1
      have e4 : M 0 7 = 1 := by rw [h1.1.2.2.2.2, hc]
      refine ⟨M1, ?_, h1.cg (fun k a => e3 k (by simp; omega)), e2, fun q => (h3 q).cg (fun k a b => e3 k (by simp; omega)), h4.cg (fun k a b => e3 k (by simp; omega)), h5.cg (fun k a b => e3 k (by simp; omega)) (by omega)⟩
      unfold P_undo
      simp (disch := omega) only [c_lt_p, c_eq_p, c_ne_p, c_ge_p, c_gt_p, c_le_p, rd_p, wa_p, wz_p, w8_p, fz_p, fw_p, tw_p, ck_p, ob_s, oc_s, if_pos, if_neg, am_upo, up_s, ne_eq, not_true_eq_false, not_false_eq_true, true_or, or_true, true_and, and_true, false_and, and_false, ck_t, reduceIte, Int.tmod_eq_emod_of_nonneg, Int.tdiv_eq_ediv_of_nonneg, e1, e4]
    · obtain ⟨h1, h2, h3, h4⟩ := hR
      obtain ⟨M1, e1, e2, e3⟩ := R_bringsBack_eq (r := 1) (by decide) hu (KR.as.mp (h3 hc))
      have e4 : M 73 66 = 1 := by rw [h1.1.2.2.2.2, hc]
      refine ⟨M1, ?_, h1.bf e3, e2, fun q => (h3 q).cg' (fun k a b => e3.1 k (by omega) (by omega) (by omega)), h4.cg (fun k a b => e3.1 k (by omega) (by omega) (by omega)) (e3.2 19 (by decide) (by decide) (by decide) (by decide) (by decide) (by decide))⟩
      unfold R_undo
      rw [show R_bringsBack 1 M = some M1 from e1]
      simp (disch := omega) only [c_lt_p, c_eq_p, c_ne_p, c_ge_p, c_gt_p, c_le_p, rd_p, wa_p, wz_p, w8_p, fz_p, fw_p, tw_p, ck_p, ob_s, oc_s, if_pos, if_neg, am_upo, up_s, ne_eq, not_true_eq_false, not_false_eq_true, true_or, or_true, true_and, and_true, false_and, and_false, ck_t, reduceIte, Int.tmod_eq_emod_of_nonneg, Int.tdiv_eq_ediv_of_nonneg, e4]
  · have hc0 : g 0 4 = 0 := by omega
    refine ⟨0, F, g, t, u, by decide, hW, fun M hC => ⟨M, ?_, hC.cg (fun _ _ => rfl) (by omega)⟩, fun M hR => ⟨M, ?_, hR⟩⟩
    · have e4 : M 0 7 = 0 := by rw [hC.1.1.2.2.2.2, hc0]
      unfold P_undo
      simp (disch := omega) only [c_lt_p, c_eq_p, c_ne_p, c_ge_p, c_gt_p, c_le_p, rd_p, wa_p, wz_p, w8_p, fz_p, fw_p, tw_p, ck_p, ob_s, oc_s, if_pos, if_neg, am_upo, up_s, ne_eq, not_true_eq_false, not_false_eq_true, true_or, or_true, true_and, and_true, false_and, and_false, ck_t, reduceIte, Int.tmod_eq_emod_of_nonneg, Int.tdiv_eq_ediv_of_nonneg, e4]
    · have e4 : M 73 66 = 0 := by rw [hR.1.1.2.2.2.2, hc0]
      unfold R_undo
      simp (disch := omega) only [c_lt_p, c_eq_p, c_ne_p, c_ge_p, c_gt_p, c_le_p, rd_p, wa_p, wz_p, w8_p, fz_p, fw_p, tw_p, ck_p, ob_s, oc_s, if_pos, if_neg, am_upo, up_s, ne_eq, not_true_eq_false, not_false_eq_true, true_or, or_true, true_and, and_true, false_and, and_false, ck_t, reduceIte, Int.tmod_eq_emod_of_nonneg, Int.tdiv_eq_ediv_of_nonneg, e4]
